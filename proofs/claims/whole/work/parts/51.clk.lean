/-! printed by wip/whole/gen_cls.py: where an instruction stands -/
set_option maxRecDepth 100000 in
theorem lk15_0 : xAt kT15 0 (.aload_n 0) 1 := ⟨1, rfl, Or.inr rfl, rfl⟩
set_option maxRecDepth 100000 in
theorem lk15_1 : xAt kT15 1 (.getfield 19) 4 := ⟨3, rfl, Or.inr rfl, rfl⟩
set_option maxRecDepth 100000 in
theorem lk15_4 : xAt kT15 4 (.bipush 10) 6 := ⟨2, rfl, Or.inr rfl, rfl⟩
set_option maxRecDepth 100000 in
theorem lk15_6 : xAt kT15 6 (.imul) 7 := ⟨1, rfl, Or.inr rfl, rfl⟩
set_option maxRecDepth 100000 in
theorem lk15_7 : xAt kT15 7 (.istore 5) 9 := ⟨2, rfl, Or.inr rfl, rfl⟩
set_option maxRecDepth 100000 in
theorem lk15_9 : xAt kT15 9 (.aload_n 0) 10 := ⟨1, rfl, Or.inr rfl, rfl⟩
set_option maxRecDepth 100000 in
theorem lk15_10 : xAt kT15 10 (.getfield 11) 13 := ⟨3, rfl, Or.inr rfl, rfl⟩
set_option maxRecDepth 100000 in
theorem lk15_13 : xAt kT15 13 (.arraylength) 14 := ⟨1, rfl, Or.inr rfl, rfl⟩
set_option maxRecDepth 100000 in
theorem lk15_14 : xAt kT15 14 (.iload 5) 16 := ⟨2, rfl, Or.inr rfl, rfl⟩
set_option maxRecDepth 100000 in
theorem lk15_16 : xAt kT15 16 (.bipush 10) 18 := ⟨2, rfl, Or.inr rfl, rfl⟩
set_option maxRecDepth 100000 in
theorem lk15_18 : xAt kT15 18 (.iadd) 19 := ⟨1, rfl, Or.inr rfl, rfl⟩
set_option maxRecDepth 100000 in
theorem lk15_19 : xAt kT15 19 (.if_icmp .ge 21) 22 := ⟨3, rfl, Or.inr rfl, rfl⟩
set_option maxRecDepth 100000 in
theorem lk15_22 : xAt kT15 22 (.aload_n 0) 23 := ⟨1, rfl, Or.inr rfl, rfl⟩
set_option maxRecDepth 100000 in
theorem lk15_23 : xAt kT15 23 (.aload_n 0) 24 := ⟨1, rfl, Or.inr rfl, rfl⟩
set_option maxRecDepth 100000 in
theorem lk15_24 : xAt kT15 24 (.getfield 11) 27 := ⟨3, rfl, Or.inr rfl, rfl⟩
set_option maxRecDepth 100000 in
theorem lk15_27 : xAt kT15 27 (.iconst 2) 28 := ⟨1, rfl, Or.inr rfl, rfl⟩
set_option maxRecDepth 100000 in
theorem lk15_28 : xAt kT15 28 (.iload 5) 30 := ⟨2, rfl, Or.inr rfl, rfl⟩
set_option maxRecDepth 100000 in
theorem lk15_30 : xAt kT15 30 (.bipush 10) 32 := ⟨2, rfl, Or.inr rfl, rfl⟩
set_option maxRecDepth 100000 in
theorem lk15_32 : xAt kT15 32 (.iadd) 33 := ⟨1, rfl, Or.inr rfl, rfl⟩
set_option maxRecDepth 100000 in
theorem lk15_33 : xAt kT15 33 (.imul) 34 := ⟨1, rfl, Or.inr rfl, rfl⟩
set_option maxRecDepth 100000 in
theorem lk15_34 : xAt kT15 34 (.invokestatic 23) 37 := ⟨3, rfl, Or.inr rfl, rfl⟩
set_option maxRecDepth 100000 in
theorem lk15_37 : xAt kT15 37 (.putfield 11) 40 := ⟨3, rfl, Or.inr rfl, rfl⟩
set_option maxRecDepth 100000 in
theorem lk15_40 : xAt kT15 40 (.aload_n 0) 41 := ⟨1, rfl, Or.inr rfl, rfl⟩
set_option maxRecDepth 100000 in
theorem lk15_41 : xAt kT15 41 (.getfield 11) 44 := ⟨3, rfl, Or.inr rfl, rfl⟩
set_option maxRecDepth 100000 in
theorem lk15_44 : xAt kT15 44 (.iload 5) 46 := ⟨2, rfl, Or.inr rfl, rfl⟩
set_option maxRecDepth 100000 in
theorem lk15_46 : xAt kT15 46 (.iload_n 1) 47 := ⟨1, rfl, Or.inr rfl, rfl⟩
set_option maxRecDepth 100000 in
theorem lk15_47 : xAt kT15 47 (.iastore) 48 := ⟨1, rfl, Or.inr rfl, rfl⟩
set_option maxRecDepth 100000 in
theorem lk15_48 : xAt kT15 48 (.aload_n 0) 49 := ⟨1, rfl, Or.inr rfl, rfl⟩
set_option maxRecDepth 100000 in
theorem lk15_49 : xAt kT15 49 (.getfield 11) 52 := ⟨3, rfl, Or.inr rfl, rfl⟩
set_option maxRecDepth 100000 in
theorem lk15_52 : xAt kT15 52 (.iload 5) 54 := ⟨2, rfl, Or.inr rfl, rfl⟩
set_option maxRecDepth 100000 in
theorem lk15_54 : xAt kT15 54 (.iconst 1) 55 := ⟨1, rfl, Or.inr rfl, rfl⟩
set_option maxRecDepth 100000 in
theorem lk15_55 : xAt kT15 55 (.iadd) 56 := ⟨1, rfl, Or.inr rfl, rfl⟩
set_option maxRecDepth 100000 in
theorem lk15_56 : xAt kT15 56 (.iload_n 2) 57 := ⟨1, rfl, Or.inr rfl, rfl⟩
set_option maxRecDepth 100000 in
theorem lk15_57 : xAt kT15 57 (.iastore) 58 := ⟨1, rfl, Or.inr rfl, rfl⟩
set_option maxRecDepth 100000 in
theorem lk15_58 : xAt kT15 58 (.aload_n 0) 59 := ⟨1, rfl, Or.inr rfl, rfl⟩
set_option maxRecDepth 100000 in
theorem lk15_59 : xAt kT15 59 (.getfield 11) 62 := ⟨3, rfl, Or.inr rfl, rfl⟩
set_option maxRecDepth 100000 in
theorem lk15_62 : xAt kT15 62 (.iload 5) 64 := ⟨2, rfl, Or.inr rfl, rfl⟩
set_option maxRecDepth 100000 in
theorem lk15_64 : xAt kT15 64 (.iconst 2) 65 := ⟨1, rfl, Or.inr rfl, rfl⟩
set_option maxRecDepth 100000 in
theorem lk15_65 : xAt kT15 65 (.iadd) 66 := ⟨1, rfl, Or.inr rfl, rfl⟩
set_option maxRecDepth 100000 in
theorem lk15_66 : xAt kT15 66 (.aload_n 0) 67 := ⟨1, rfl, Or.inr rfl, rfl⟩
set_option maxRecDepth 100000 in
theorem lk15_67 : xAt kT15 67 (.getfield 29) 70 := ⟨3, rfl, Or.inr rfl, rfl⟩
set_option maxRecDepth 100000 in
theorem lk15_70 : xAt kT15 70 (.iastore) 71 := ⟨1, rfl, Or.inr rfl, rfl⟩
set_option maxRecDepth 100000 in
theorem lk15_71 : xAt kT15 71 (.aload_n 0) 72 := ⟨1, rfl, Or.inr rfl, rfl⟩
set_option maxRecDepth 100000 in
theorem lk15_72 : xAt kT15 72 (.getfield 11) 75 := ⟨3, rfl, Or.inr rfl, rfl⟩
set_option maxRecDepth 100000 in
theorem lk15_75 : xAt kT15 75 (.iload 5) 77 := ⟨2, rfl, Or.inr rfl, rfl⟩
set_option maxRecDepth 100000 in
theorem lk15_77 : xAt kT15 77 (.iconst 3) 78 := ⟨1, rfl, Or.inr rfl, rfl⟩
set_option maxRecDepth 100000 in
theorem lk15_78 : xAt kT15 78 (.iadd) 79 := ⟨1, rfl, Or.inr rfl, rfl⟩
set_option maxRecDepth 100000 in
theorem lk15_79 : xAt kT15 79 (.iconst (-1)) 80 := ⟨1, rfl, Or.inr rfl, rfl⟩
set_option maxRecDepth 100000 in
theorem lk15_80 : xAt kT15 80 (.iastore) 81 := ⟨1, rfl, Or.inr rfl, rfl⟩
set_option maxRecDepth 100000 in
theorem lk15_81 : xAt kT15 81 (.aload_n 0) 82 := ⟨1, rfl, Or.inr rfl, rfl⟩
set_option maxRecDepth 100000 in
theorem lk15_82 : xAt kT15 82 (.getfield 11) 85 := ⟨3, rfl, Or.inr rfl, rfl⟩
set_option maxRecDepth 100000 in
theorem lk15_85 : xAt kT15 85 (.iload 5) 87 := ⟨2, rfl, Or.inr rfl, rfl⟩
set_option maxRecDepth 100000 in
theorem lk15_87 : xAt kT15 87 (.iconst 4) 88 := ⟨1, rfl, Or.inr rfl, rfl⟩
set_option maxRecDepth 100000 in
theorem lk15_88 : xAt kT15 88 (.iadd) 89 := ⟨1, rfl, Or.inr rfl, rfl⟩
set_option maxRecDepth 100000 in
theorem lk15_89 : xAt kT15 89 (.iconst 0) 90 := ⟨1, rfl, Or.inr rfl, rfl⟩
set_option maxRecDepth 100000 in
theorem lk15_90 : xAt kT15 90 (.iastore) 91 := ⟨1, rfl, Or.inr rfl, rfl⟩
set_option maxRecDepth 100000 in
theorem lk15_91 : xAt kT15 91 (.aload_n 0) 92 := ⟨1, rfl, Or.inr rfl, rfl⟩
set_option maxRecDepth 100000 in
theorem lk15_92 : xAt kT15 92 (.getfield 11) 95 := ⟨3, rfl, Or.inr rfl, rfl⟩
set_option maxRecDepth 100000 in
theorem lk15_95 : xAt kT15 95 (.iload 5) 97 := ⟨2, rfl, Or.inr rfl, rfl⟩
set_option maxRecDepth 100000 in
theorem lk15_97 : xAt kT15 97 (.iconst 5) 98 := ⟨1, rfl, Or.inr rfl, rfl⟩
set_option maxRecDepth 100000 in
theorem lk15_98 : xAt kT15 98 (.iadd) 99 := ⟨1, rfl, Or.inr rfl, rfl⟩
set_option maxRecDepth 100000 in
theorem lk15_99 : xAt kT15 99 (.iconst (-1)) 100 := ⟨1, rfl, Or.inr rfl, rfl⟩
set_option maxRecDepth 100000 in
theorem lk15_100 : xAt kT15 100 (.iastore) 101 := ⟨1, rfl, Or.inr rfl, rfl⟩
set_option maxRecDepth 100000 in
theorem lk15_101 : xAt kT15 101 (.aload_n 0) 102 := ⟨1, rfl, Or.inr rfl, rfl⟩
set_option maxRecDepth 100000 in
theorem lk15_102 : xAt kT15 102 (.getfield 11) 105 := ⟨3, rfl, Or.inr rfl, rfl⟩
set_option maxRecDepth 100000 in
theorem lk15_105 : xAt kT15 105 (.iload 5) 107 := ⟨2, rfl, Or.inr rfl, rfl⟩
set_option maxRecDepth 100000 in
theorem lk15_107 : xAt kT15 107 (.bipush 6) 109 := ⟨2, rfl, Or.inr rfl, rfl⟩
set_option maxRecDepth 100000 in
theorem lk15_109 : xAt kT15 109 (.iadd) 110 := ⟨1, rfl, Or.inr rfl, rfl⟩
set_option maxRecDepth 100000 in
theorem lk15_110 : xAt kT15 110 (.aload_n 0) 111 := ⟨1, rfl, Or.inr rfl, rfl⟩
set_option maxRecDepth 100000 in
theorem lk15_111 : xAt kT15 111 (.getfield 32) 114 := ⟨3, rfl, Or.inr rfl, rfl⟩
set_option maxRecDepth 100000 in
theorem lk15_114 : xAt kT15 114 (.iastore) 115 := ⟨1, rfl, Or.inr rfl, rfl⟩
set_option maxRecDepth 100000 in
theorem lk15_115 : xAt kT15 115 (.aload_n 0) 116 := ⟨1, rfl, Or.inr rfl, rfl⟩
set_option maxRecDepth 100000 in
theorem lk15_116 : xAt kT15 116 (.getfield 11) 119 := ⟨3, rfl, Or.inr rfl, rfl⟩
set_option maxRecDepth 100000 in
theorem lk15_119 : xAt kT15 119 (.iload 5) 121 := ⟨2, rfl, Or.inr rfl, rfl⟩
set_option maxRecDepth 100000 in
theorem lk15_121 : xAt kT15 121 (.bipush 7) 123 := ⟨2, rfl, Or.inr rfl, rfl⟩
set_option maxRecDepth 100000 in
theorem lk15_123 : xAt kT15 123 (.iadd) 124 := ⟨1, rfl, Or.inr rfl, rfl⟩
set_option maxRecDepth 100000 in
theorem lk15_124 : xAt kT15 124 (.iload_n 3) 125 := ⟨1, rfl, Or.inr rfl, rfl⟩
set_option maxRecDepth 100000 in
theorem lk15_125 : xAt kT15 125 (.iastore) 126 := ⟨1, rfl, Or.inr rfl, rfl⟩
set_option maxRecDepth 100000 in
theorem lk15_126 : xAt kT15 126 (.aload_n 0) 127 := ⟨1, rfl, Or.inr rfl, rfl⟩
set_option maxRecDepth 100000 in
theorem lk15_127 : xAt kT15 127 (.getfield 11) 130 := ⟨3, rfl, Or.inr rfl, rfl⟩
set_option maxRecDepth 100000 in
theorem lk15_130 : xAt kT15 130 (.iload 5) 132 := ⟨2, rfl, Or.inr rfl, rfl⟩
set_option maxRecDepth 100000 in
theorem lk15_132 : xAt kT15 132 (.bipush 8) 134 := ⟨2, rfl, Or.inr rfl, rfl⟩
set_option maxRecDepth 100000 in
theorem lk15_134 : xAt kT15 134 (.iadd) 135 := ⟨1, rfl, Or.inr rfl, rfl⟩
set_option maxRecDepth 100000 in
theorem lk15_135 : xAt kT15 135 (.iload 4) 137 := ⟨2, rfl, Or.inr rfl, rfl⟩
set_option maxRecDepth 100000 in
theorem lk15_137 : xAt kT15 137 (.iastore) 138 := ⟨1, rfl, Or.inr rfl, rfl⟩
set_option maxRecDepth 100000 in
theorem lk15_138 : xAt kT15 138 (.aload_n 0) 139 := ⟨1, rfl, Or.inr rfl, rfl⟩
set_option maxRecDepth 100000 in
theorem lk15_139 : xAt kT15 139 (.getfield 11) 142 := ⟨3, rfl, Or.inr rfl, rfl⟩
set_option maxRecDepth 100000 in
theorem lk15_142 : xAt kT15 142 (.iload 5) 144 := ⟨2, rfl, Or.inr rfl, rfl⟩
set_option maxRecDepth 100000 in
theorem lk15_144 : xAt kT15 144 (.bipush 9) 146 := ⟨2, rfl, Or.inr rfl, rfl⟩
set_option maxRecDepth 100000 in
theorem lk15_146 : xAt kT15 146 (.iadd) 147 := ⟨1, rfl, Or.inr rfl, rfl⟩
set_option maxRecDepth 100000 in
theorem lk15_147 : xAt kT15 147 (.iconst 0) 148 := ⟨1, rfl, Or.inr rfl, rfl⟩
set_option maxRecDepth 100000 in
theorem lk15_148 : xAt kT15 148 (.iastore) 149 := ⟨1, rfl, Or.inr rfl, rfl⟩
set_option maxRecDepth 100000 in
theorem lk15_149 : xAt kT15 149 (.aload_n 0) 150 := ⟨1, rfl, Or.inr rfl, rfl⟩
set_option maxRecDepth 100000 in
theorem lk15_150 : xAt kT15 150 (.dup) 151 := ⟨1, rfl, Or.inr rfl, rfl⟩
set_option maxRecDepth 100000 in
theorem lk15_151 : xAt kT15 151 (.getfield 29) 154 := ⟨3, rfl, Or.inr rfl, rfl⟩
set_option maxRecDepth 100000 in
theorem lk15_154 : xAt kT15 154 (.iconst 1) 155 := ⟨1, rfl, Or.inr rfl, rfl⟩
set_option maxRecDepth 100000 in
theorem lk15_155 : xAt kT15 155 (.iadd) 156 := ⟨1, rfl, Or.inr rfl, rfl⟩
set_option maxRecDepth 100000 in
theorem lk15_156 : xAt kT15 156 (.putfield 29) 159 := ⟨3, rfl, Or.inr rfl, rfl⟩
set_option maxRecDepth 100000 in
theorem lk15_159 : xAt kT15 159 (.aload_n 0) 160 := ⟨1, rfl, Or.inr rfl, rfl⟩
set_option maxRecDepth 100000 in
theorem lk15_160 : xAt kT15 160 (.dup) 161 := ⟨1, rfl, Or.inr rfl, rfl⟩
set_option maxRecDepth 100000 in
theorem lk15_161 : xAt kT15 161 (.getfield 19) 164 := ⟨3, rfl, Or.inr rfl, rfl⟩
set_option maxRecDepth 100000 in
theorem lk15_164 : xAt kT15 164 (.iconst 1) 165 := ⟨1, rfl, Or.inr rfl, rfl⟩
set_option maxRecDepth 100000 in
theorem lk15_165 : xAt kT15 165 (.iadd) 166 := ⟨1, rfl, Or.inr rfl, rfl⟩
set_option maxRecDepth 100000 in
theorem lk15_166 : xAt kT15 166 (.putfield 19) 169 := ⟨3, rfl, Or.inr rfl, rfl⟩
set_option maxRecDepth 100000 in
theorem lk15_169 : xAt kT15 169 (.aload_n 0) 170 := ⟨1, rfl, Or.inr rfl, rfl⟩
set_option maxRecDepth 100000 in
theorem lk15_170 : xAt kT15 170 (.getfield 19) 173 := ⟨3, rfl, Or.inr rfl, rfl⟩
set_option maxRecDepth 100000 in
theorem lk15_173 : xAt kT15 173 (.iconst 1) 174 := ⟨1, rfl, Or.inr rfl, rfl⟩
set_option maxRecDepth 100000 in
theorem lk15_174 : xAt kT15 174 (.isub) 175 := ⟨1, rfl, Or.inr rfl, rfl⟩
set_option maxRecDepth 100000 in
theorem lk15_175 : xAt kT15 175 (.ireturn) 176 := ⟨1, rfl, Or.inr rfl, rfl⟩
set_option maxRecDepth 100000 in
theorem lk18_0 : xAt kT18 0 (.iload_n 1) 1 := ⟨1, rfl, Or.inr rfl, rfl⟩
set_option maxRecDepth 100000 in
theorem lk18_1 : xAt kT18 1 (.bipush 10) 3 := ⟨2, rfl, Or.inr rfl, rfl⟩
set_option maxRecDepth 100000 in
theorem lk18_3 : xAt kT18 3 (.imul) 4 := ⟨1, rfl, Or.inr rfl, rfl⟩
set_option maxRecDepth 100000 in
theorem lk18_4 : xAt kT18 4 (.istore 4) 6 := ⟨2, rfl, Or.inr rfl, rfl⟩
set_option maxRecDepth 100000 in
theorem lk18_6 : xAt kT18 6 (.aload_n 0) 7 := ⟨1, rfl, Or.inr rfl, rfl⟩
set_option maxRecDepth 100000 in
theorem lk18_7 : xAt kT18 7 (.getfield 11) 10 := ⟨3, rfl, Or.inr rfl, rfl⟩
set_option maxRecDepth 100000 in
theorem lk18_10 : xAt kT18 10 (.iload 4) 12 := ⟨2, rfl, Or.inr rfl, rfl⟩
set_option maxRecDepth 100000 in
theorem lk18_12 : xAt kT18 12 (.iconst 3) 13 := ⟨1, rfl, Or.inr rfl, rfl⟩
set_option maxRecDepth 100000 in
theorem lk18_13 : xAt kT18 13 (.iadd) 14 := ⟨1, rfl, Or.inr rfl, rfl⟩
set_option maxRecDepth 100000 in
theorem lk18_14 : xAt kT18 14 (.aload_n 0) 15 := ⟨1, rfl, Or.inr rfl, rfl⟩
set_option maxRecDepth 100000 in
theorem lk18_15 : xAt kT18 15 (.getfield 29) 18 := ⟨3, rfl, Or.inr rfl, rfl⟩
set_option maxRecDepth 100000 in
theorem lk18_18 : xAt kT18 18 (.iastore) 19 := ⟨1, rfl, Or.inr rfl, rfl⟩
set_option maxRecDepth 100000 in
theorem lk18_19 : xAt kT18 19 (.aload_n 0) 20 := ⟨1, rfl, Or.inr rfl, rfl⟩
set_option maxRecDepth 100000 in
theorem lk18_20 : xAt kT18 20 (.getfield 11) 23 := ⟨3, rfl, Or.inr rfl, rfl⟩
set_option maxRecDepth 100000 in
theorem lk18_23 : xAt kT18 23 (.iload 4) 25 := ⟨2, rfl, Or.inr rfl, rfl⟩
set_option maxRecDepth 100000 in
theorem lk18_25 : xAt kT18 25 (.iconst 4) 26 := ⟨1, rfl, Or.inr rfl, rfl⟩
set_option maxRecDepth 100000 in
theorem lk18_26 : xAt kT18 26 (.iadd) 27 := ⟨1, rfl, Or.inr rfl, rfl⟩
set_option maxRecDepth 100000 in
theorem lk18_27 : xAt kT18 27 (.iload_n 2) 28 := ⟨1, rfl, Or.inr rfl, rfl⟩
set_option maxRecDepth 100000 in
theorem lk18_28 : xAt kT18 28 (.iastore) 29 := ⟨1, rfl, Or.inr rfl, rfl⟩
set_option maxRecDepth 100000 in
theorem lk18_29 : xAt kT18 29 (.aload_n 0) 30 := ⟨1, rfl, Or.inr rfl, rfl⟩
set_option maxRecDepth 100000 in
theorem lk18_30 : xAt kT18 30 (.getfield 11) 33 := ⟨3, rfl, Or.inr rfl, rfl⟩
set_option maxRecDepth 100000 in
theorem lk18_33 : xAt kT18 33 (.iload 4) 35 := ⟨2, rfl, Or.inr rfl, rfl⟩
set_option maxRecDepth 100000 in
theorem lk18_35 : xAt kT18 35 (.iconst 5) 36 := ⟨1, rfl, Or.inr rfl, rfl⟩
set_option maxRecDepth 100000 in
theorem lk18_36 : xAt kT18 36 (.iadd) 37 := ⟨1, rfl, Or.inr rfl, rfl⟩
set_option maxRecDepth 100000 in
theorem lk18_37 : xAt kT18 37 (.iload_n 3) 38 := ⟨1, rfl, Or.inr rfl, rfl⟩
set_option maxRecDepth 100000 in
theorem lk18_38 : xAt kT18 38 (.iastore) 39 := ⟨1, rfl, Or.inr rfl, rfl⟩
set_option maxRecDepth 100000 in
theorem lk18_39 : xAt kT18 39 (.aload_n 0) 40 := ⟨1, rfl, Or.inr rfl, rfl⟩
set_option maxRecDepth 100000 in
theorem lk18_40 : xAt kT18 40 (.dup) 41 := ⟨1, rfl, Or.inr rfl, rfl⟩
set_option maxRecDepth 100000 in
theorem lk18_41 : xAt kT18 41 (.getfield 29) 44 := ⟨3, rfl, Or.inr rfl, rfl⟩
set_option maxRecDepth 100000 in
theorem lk18_44 : xAt kT18 44 (.iconst 1) 45 := ⟨1, rfl, Or.inr rfl, rfl⟩
set_option maxRecDepth 100000 in
theorem lk18_45 : xAt kT18 45 (.iadd) 46 := ⟨1, rfl, Or.inr rfl, rfl⟩
set_option maxRecDepth 100000 in
theorem lk18_46 : xAt kT18 46 (.putfield 29) 49 := ⟨3, rfl, Or.inr rfl, rfl⟩
set_option maxRecDepth 100000 in
theorem lk18_49 : xAt kT18 49 (.return_) 50 := ⟨1, rfl, Or.inr rfl, rfl⟩
set_option maxRecDepth 100000 in
theorem lk19_0 : xAt kT19 0 (.iload_n 1) 1 := ⟨1, rfl, Or.inr rfl, rfl⟩
set_option maxRecDepth 100000 in
theorem lk19_1 : xAt kT19 1 (.ifCond .lt 11) 4 := ⟨3, rfl, Or.inr rfl, rfl⟩
set_option maxRecDepth 100000 in
theorem lk19_4 : xAt kT19 4 (.iload_n 1) 5 := ⟨1, rfl, Or.inr rfl, rfl⟩
set_option maxRecDepth 100000 in
theorem lk19_5 : xAt kT19 5 (.aload_n 0) 6 := ⟨1, rfl, Or.inr rfl, rfl⟩
set_option maxRecDepth 100000 in
theorem lk19_6 : xAt kT19 6 (.getfield 19) 9 := ⟨3, rfl, Or.inr rfl, rfl⟩
set_option maxRecDepth 100000 in
theorem lk19_9 : xAt kT19 9 (.if_icmp .lt 7) 12 := ⟨3, rfl, Or.inr rfl, rfl⟩
set_option maxRecDepth 100000 in
theorem lk19_12 : xAt kT19 12 (.iconst 0) 13 := ⟨1, rfl, Or.inr rfl, rfl⟩
set_option maxRecDepth 100000 in
theorem lk19_13 : xAt kT19 13 (.goto 14) 16 := ⟨3, rfl, Or.inr rfl, rfl⟩
set_option maxRecDepth 100000 in
theorem lk19_16 : xAt kT19 16 (.aload_n 0) 17 := ⟨1, rfl, Or.inr rfl, rfl⟩
set_option maxRecDepth 100000 in
theorem lk19_17 : xAt kT19 17 (.getfield 11) 20 := ⟨3, rfl, Or.inr rfl, rfl⟩
set_option maxRecDepth 100000 in
theorem lk19_20 : xAt kT19 20 (.iload_n 1) 21 := ⟨1, rfl, Or.inr rfl, rfl⟩
set_option maxRecDepth 100000 in
theorem lk19_21 : xAt kT19 21 (.bipush 10) 23 := ⟨2, rfl, Or.inr rfl, rfl⟩
set_option maxRecDepth 100000 in
theorem lk19_23 : xAt kT19 23 (.imul) 24 := ⟨1, rfl, Or.inr rfl, rfl⟩
set_option maxRecDepth 100000 in
theorem lk19_24 : xAt kT19 24 (.iload_n 2) 25 := ⟨1, rfl, Or.inr rfl, rfl⟩
set_option maxRecDepth 100000 in
theorem lk19_25 : xAt kT19 25 (.iadd) 26 := ⟨1, rfl, Or.inr rfl, rfl⟩
set_option maxRecDepth 100000 in
theorem lk19_26 : xAt kT19 26 (.iaload) 27 := ⟨1, rfl, Or.inr rfl, rfl⟩
set_option maxRecDepth 100000 in
theorem lk19_27 : xAt kT19 27 (.ireturn) 28 := ⟨1, rfl, Or.inr rfl, rfl⟩
set_option maxRecDepth 100000 in
theorem lk194_0 : xAt kT194 0 (.aload_n 0) 1 := ⟨1, rfl, Or.inr rfl, rfl⟩
set_option maxRecDepth 100000 in
theorem lk194_1 : xAt kT194 1 (.getfield 9) 4 := ⟨3, rfl, Or.inr rfl, rfl⟩
set_option maxRecDepth 100000 in
theorem lk194_4 : xAt kT194 4 (.iload_n 1) 5 := ⟨1, rfl, Or.inr rfl, rfl⟩
set_option maxRecDepth 100000 in
theorem lk194_5 : xAt kT194 5 (.iconst (-1)) 6 := ⟨1, rfl, Or.inr rfl, rfl⟩
set_option maxRecDepth 100000 in
theorem lk194_6 : xAt kT194 6 (.iastore) 7 := ⟨1, rfl, Or.inr rfl, rfl⟩
set_option maxRecDepth 100000 in
theorem lk194_7 : xAt kT194 7 (.return_) 8 := ⟨1, rfl, Or.inr rfl, rfl⟩
set_option maxRecDepth 100000 in
theorem lk20_0 : xAt kT20 0 (.aload_n 0) 1 := ⟨1, rfl, Or.inr rfl, rfl⟩
set_option maxRecDepth 100000 in
theorem lk20_1 : xAt kT20 1 (.iconst 0) 2 := ⟨1, rfl, Or.inr rfl, rfl⟩
set_option maxRecDepth 100000 in
theorem lk20_2 : xAt kT20 2 (.putfield 33) 5 := ⟨3, rfl, Or.inr rfl, rfl⟩
set_option maxRecDepth 100000 in
theorem lk20_5 : xAt kT20 5 (.aload_n 0) 6 := ⟨1, rfl, Or.inr rfl, rfl⟩
set_option maxRecDepth 100000 in
theorem lk20_6 : xAt kT20 6 (.iconst 0) 7 := ⟨1, rfl, Or.inr rfl, rfl⟩
set_option maxRecDepth 100000 in
theorem lk20_7 : xAt kT20 7 (.putfield 44) 10 := ⟨3, rfl, Or.inr rfl, rfl⟩
set_option maxRecDepth 100000 in
theorem lk20_10 : xAt kT20 10 (.aload_n 0) 11 := ⟨1, rfl, Or.inr rfl, rfl⟩
set_option maxRecDepth 100000 in
theorem lk20_11 : xAt kT20 11 (.iconst 0) 12 := ⟨1, rfl, Or.inr rfl, rfl⟩
set_option maxRecDepth 100000 in
theorem lk20_12 : xAt kT20 12 (.putfield 115) 15 := ⟨3, rfl, Or.inr rfl, rfl⟩
set_option maxRecDepth 100000 in
theorem lk20_15 : xAt kT20 15 (.aload_n 0) 16 := ⟨1, rfl, Or.inr rfl, rfl⟩
set_option maxRecDepth 100000 in
theorem lk20_16 : xAt kT20 16 (.getfield 25) 19 := ⟨3, rfl, Or.inr rfl, rfl⟩
set_option maxRecDepth 100000 in
theorem lk20_19 : xAt kT20 19 (.aload_n 0) 20 := ⟨1, rfl, Or.inr rfl, rfl⟩
set_option maxRecDepth 100000 in
theorem lk20_20 : xAt kT20 20 (.getfield 22) 23 := ⟨3, rfl, Or.inr rfl, rfl⟩
set_option maxRecDepth 100000 in
theorem lk20_23 : xAt kT20 23 (.invokevirtual 151) 26 := ⟨3, rfl, Or.inr rfl, rfl⟩
set_option maxRecDepth 100000 in
theorem lk20_26 : xAt kT20 26 (.aload_n 0) 27 := ⟨1, rfl, Or.inr rfl, rfl⟩
set_option maxRecDepth 100000 in
theorem lk20_27 : xAt kT20 27 (.getfield 29) 30 := ⟨3, rfl, Or.inr rfl, rfl⟩
set_option maxRecDepth 100000 in
theorem lk20_30 : xAt kT20 30 (.aload_n 0) 31 := ⟨1, rfl, Or.inr rfl, rfl⟩
set_option maxRecDepth 100000 in
theorem lk20_31 : xAt kT20 31 (.getfield 15) 34 := ⟨3, rfl, Or.inr rfl, rfl⟩
set_option maxRecDepth 100000 in
theorem lk20_34 : xAt kT20 34 (.iload_n 1) 35 := ⟨1, rfl, Or.inr rfl, rfl⟩
set_option maxRecDepth 100000 in
theorem lk20_35 : xAt kT20 35 (.iload_n 2) 36 := ⟨1, rfl, Or.inr rfl, rfl⟩
set_option maxRecDepth 100000 in
theorem lk20_36 : xAt kT20 36 (.invokevirtual 154) 39 := ⟨3, rfl, Or.inr rfl, rfl⟩
set_option maxRecDepth 100000 in
theorem lk20_39 : xAt kT20 39 (.return_) 40 := ⟨1, rfl, Or.inr rfl, rfl⟩
set_option maxRecDepth 100000 in
theorem lk27_0 : xAt kT27 0 (.aload_n 0) 1 := ⟨1, rfl, Or.inr rfl, rfl⟩
set_option maxRecDepth 100000 in
theorem lk27_1 : xAt kT27 1 (.getfield 29) 4 := ⟨3, rfl, Or.inr rfl, rfl⟩
set_option maxRecDepth 100000 in
theorem lk27_4 : xAt kT27 4 (.aload_n 0) 5 := ⟨1, rfl, Or.inr rfl, rfl⟩
set_option maxRecDepth 100000 in
theorem lk27_5 : xAt kT27 5 (.getfield 15) 8 := ⟨3, rfl, Or.inr rfl, rfl⟩
set_option maxRecDepth 100000 in
theorem lk27_8 : xAt kT27 8 (.iconst 1) 9 := ⟨1, rfl, Or.inr rfl, rfl⟩
set_option maxRecDepth 100000 in
theorem lk27_9 : xAt kT27 9 (.invokevirtual 58) 12 := ⟨3, rfl, Or.inr rfl, rfl⟩
set_option maxRecDepth 100000 in
theorem lk27_12 : xAt kT27 12 (.iconst 2) 13 := ⟨1, rfl, Or.inr rfl, rfl⟩
set_option maxRecDepth 100000 in
theorem lk27_13 : xAt kT27 13 (.if_icmp .gt 7) 16 := ⟨3, rfl, Or.inr rfl, rfl⟩
set_option maxRecDepth 100000 in
theorem lk27_16 : xAt kT27 16 (.iconst 1) 17 := ⟨1, rfl, Or.inr rfl, rfl⟩
set_option maxRecDepth 100000 in
theorem lk27_17 : xAt kT27 17 (.goto 4) 20 := ⟨3, rfl, Or.inr rfl, rfl⟩
set_option maxRecDepth 100000 in
theorem lk27_20 : xAt kT27 20 (.iconst 0) 21 := ⟨1, rfl, Or.inr rfl, rfl⟩
set_option maxRecDepth 100000 in
theorem lk27_21 : xAt kT27 21 (.ireturn) 22 := ⟨1, rfl, Or.inr rfl, rfl⟩
set_option maxRecDepth 100000 in
theorem lk22_0 : xAt kT22 0 (.aload_n 0) 1 := ⟨1, rfl, Or.inr rfl, rfl⟩
set_option maxRecDepth 100000 in
theorem lk22_1 : xAt kT22 1 (.invokevirtual 40) 4 := ⟨3, rfl, Or.inr rfl, rfl⟩
set_option maxRecDepth 100000 in
theorem lk22_4 : xAt kT22 4 (.ifCond .eq 17) 7 := ⟨3, rfl, Or.inr rfl, rfl⟩
set_option maxRecDepth 100000 in
theorem lk22_7 : xAt kT22 7 (.aload_n 0) 8 := ⟨1, rfl, Or.inr rfl, rfl⟩
set_option maxRecDepth 100000 in
theorem lk22_8 : xAt kT22 8 (.iconst (-1)) 9 := ⟨1, rfl, Or.inr rfl, rfl⟩
set_option maxRecDepth 100000 in
theorem lk22_9 : xAt kT22 9 (.putfield 9) 12 := ⟨3, rfl, Or.inr rfl, rfl⟩
set_option maxRecDepth 100000 in
theorem lk22_12 : xAt kT22 12 (.aload_n 0) 13 := ⟨1, rfl, Or.inr rfl, rfl⟩
set_option maxRecDepth 100000 in
theorem lk22_13 : xAt kT22 13 (.iconst 2) 14 := ⟨1, rfl, Or.inr rfl, rfl⟩
set_option maxRecDepth 100000 in
theorem lk22_14 : xAt kT22 14 (.iconst (-1)) 15 := ⟨1, rfl, Or.inr rfl, rfl⟩
set_option maxRecDepth 100000 in
theorem lk22_15 : xAt kT22 15 (.invokevirtual 148) 18 := ⟨3, rfl, Or.inr rfl, rfl⟩
set_option maxRecDepth 100000 in
theorem lk22_18 : xAt kT22 18 (.goto 9) 21 := ⟨3, rfl, Or.inr rfl, rfl⟩
set_option maxRecDepth 100000 in
theorem lk22_21 : xAt kT22 21 (.aload_n 0) 22 := ⟨1, rfl, Or.inr rfl, rfl⟩
set_option maxRecDepth 100000 in
theorem lk22_22 : xAt kT22 22 (.iconst 3) 23 := ⟨1, rfl, Or.inr rfl, rfl⟩
set_option maxRecDepth 100000 in
theorem lk22_23 : xAt kT22 23 (.iconst (-1)) 24 := ⟨1, rfl, Or.inr rfl, rfl⟩
set_option maxRecDepth 100000 in
theorem lk22_24 : xAt kT22 24 (.invokevirtual 148) 27 := ⟨3, rfl, Or.inr rfl, rfl⟩
set_option maxRecDepth 100000 in
theorem lk22_27 : xAt kT22 27 (.return_) 28 := ⟨1, rfl, Or.inr rfl, rfl⟩
set_option maxRecDepth 100000 in
theorem lk185_0 : xAt kT185 0 (.aload_n 0) 1 := ⟨1, rfl, Or.inr rfl, rfl⟩
set_option maxRecDepth 100000 in
theorem lk185_1 : xAt kT185 1 (.getfield 35) 4 := ⟨3, rfl, Or.inr rfl, rfl⟩
set_option maxRecDepth 100000 in
theorem lk185_4 : xAt kT185 4 (.invokevirtual 48) 7 := ⟨3, rfl, Or.inr rfl, rfl⟩
set_option maxRecDepth 100000 in
theorem lk185_7 : xAt kT185 7 (.ifCond .eq 13) 10 := ⟨3, rfl, Or.inr rfl, rfl⟩
set_option maxRecDepth 100000 in
theorem lk185_10 : xAt kT185 10 (.new 52) 13 := ⟨3, rfl, Or.inr rfl, rfl⟩
set_option maxRecDepth 100000 in
theorem lk185_13 : xAt kT185 13 (.dup) 14 := ⟨1, rfl, Or.inr rfl, rfl⟩
set_option maxRecDepth 100000 in
theorem lk185_14 : xAt kT185 14 (.invokespecial 54) 17 := ⟨3, rfl, Or.inr rfl, rfl⟩
set_option maxRecDepth 100000 in
theorem lk185_17 : xAt kT185 17 (.goto 22) 20 := ⟨3, rfl, Or.inr rfl, rfl⟩
set_option maxRecDepth 100000 in
theorem lk185_20 : xAt kT185 20 (.aload_n 0) 21 := ⟨1, rfl, Or.inr rfl, rfl⟩
set_option maxRecDepth 100000 in
theorem lk185_21 : xAt kT185 21 (.getfield 35) 24 := ⟨3, rfl, Or.inr rfl, rfl⟩
set_option maxRecDepth 100000 in
theorem lk185_24 : xAt kT185 24 (.aload_n 0) 25 := ⟨1, rfl, Or.inr rfl, rfl⟩
set_option maxRecDepth 100000 in
theorem lk185_25 : xAt kT185 25 (.getfield 35) 28 := ⟨3, rfl, Or.inr rfl, rfl⟩
set_option maxRecDepth 100000 in
theorem lk185_28 : xAt kT185 28 (.invokevirtual 55) 31 := ⟨3, rfl, Or.inr rfl, rfl⟩
set_option maxRecDepth 100000 in
theorem lk185_31 : xAt kT185 31 (.iconst 1) 32 := ⟨1, rfl, Or.inr rfl, rfl⟩
set_option maxRecDepth 100000 in
theorem lk185_32 : xAt kT185 32 (.isub) 33 := ⟨1, rfl, Or.inr rfl, rfl⟩
set_option maxRecDepth 100000 in
theorem lk185_33 : xAt kT185 33 (.invokevirtual 59) 36 := ⟨3, rfl, Or.inr rfl, rfl⟩
set_option maxRecDepth 100000 in
theorem lk185_36 : xAt kT185 36 (.checkcast 52) 39 := ⟨3, rfl, Or.inr rfl, rfl⟩
set_option maxRecDepth 100000 in
theorem lk185_39 : xAt kT185 39 (.areturn) 40 := ⟨1, rfl, Or.inr rfl, rfl⟩
set_option maxRecDepth 100000 in
theorem lk184_0 : xAt kT184 0 (.aload_n 0) 1 := ⟨1, rfl, Or.inr rfl, rfl⟩
set_option maxRecDepth 100000 in
theorem lk184_1 : xAt kT184 1 (.getfield 44) 4 := ⟨3, rfl, Or.inr rfl, rfl⟩
set_option maxRecDepth 100000 in
theorem lk184_4 : xAt kT184 4 (.iload_n 1) 5 := ⟨1, rfl, Or.inr rfl, rfl⟩
set_option maxRecDepth 100000 in
theorem lk184_5 : xAt kT184 5 (.ishr) 6 := ⟨1, rfl, Or.inr rfl, rfl⟩
set_option maxRecDepth 100000 in
theorem lk184_6 : xAt kT184 6 (.aload_n 0) 7 := ⟨1, rfl, Or.inr rfl, rfl⟩
set_option maxRecDepth 100000 in
theorem lk184_7 : xAt kT184 7 (.getfield 44) 10 := ⟨3, rfl, Or.inr rfl, rfl⟩
set_option maxRecDepth 100000 in
theorem lk184_10 : xAt kT184 10 (.iload_n 2) 11 := ⟨1, rfl, Or.inr rfl, rfl⟩
set_option maxRecDepth 100000 in
theorem lk184_11 : xAt kT184 11 (.ishr) 12 := ⟨1, rfl, Or.inr rfl, rfl⟩
set_option maxRecDepth 100000 in
theorem lk184_12 : xAt kT184 12 (.ixor) 13 := ⟨1, rfl, Or.inr rfl, rfl⟩
set_option maxRecDepth 100000 in
theorem lk184_13 : xAt kT184 13 (.iconst 1) 14 := ⟨1, rfl, Or.inr rfl, rfl⟩
set_option maxRecDepth 100000 in
theorem lk184_14 : xAt kT184 14 (.iand) 15 := ⟨1, rfl, Or.inr rfl, rfl⟩
set_option maxRecDepth 100000 in
theorem lk184_15 : xAt kT184 15 (.ifCond .eq 7) 18 := ⟨3, rfl, Or.inr rfl, rfl⟩
set_option maxRecDepth 100000 in
theorem lk184_18 : xAt kT184 18 (.iconst 1) 19 := ⟨1, rfl, Or.inr rfl, rfl⟩
set_option maxRecDepth 100000 in
theorem lk184_19 : xAt kT184 19 (.goto 4) 22 := ⟨3, rfl, Or.inr rfl, rfl⟩
set_option maxRecDepth 100000 in
theorem lk184_22 : xAt kT184 22 (.iconst 0) 23 := ⟨1, rfl, Or.inr rfl, rfl⟩
set_option maxRecDepth 100000 in
theorem lk184_23 : xAt kT184 23 (.ireturn) 24 := ⟨1, rfl, Or.inr rfl, rfl⟩
set_option maxRecDepth 100000 in
theorem lk198_0 : xAt kT198 0 (.aload_n 0) 1 := ⟨1, rfl, Or.inr rfl, rfl⟩
set_option maxRecDepth 100000 in
theorem lk198_1 : xAt kT198 1 (.dup) 2 := ⟨1, rfl, Or.inr rfl, rfl⟩
set_option maxRecDepth 100000 in
theorem lk198_2 : xAt kT198 2 (.getfield 108) 5 := ⟨3, rfl, Or.inr rfl, rfl⟩
set_option maxRecDepth 100000 in
theorem lk198_5 : xAt kT198 5 (.iconst 1) 6 := ⟨1, rfl, Or.inr rfl, rfl⟩
set_option maxRecDepth 100000 in
theorem lk198_6 : xAt kT198 6 (.iadd) 7 := ⟨1, rfl, Or.inr rfl, rfl⟩
set_option maxRecDepth 100000 in
theorem lk198_7 : xAt kT198 7 (.putfield 108) 10 := ⟨3, rfl, Or.inr rfl, rfl⟩
set_option maxRecDepth 100000 in
theorem lk198_10 : xAt kT198 10 (.aload_n 0) 11 := ⟨1, rfl, Or.inr rfl, rfl⟩
set_option maxRecDepth 100000 in
theorem lk198_11 : xAt kT198 11 (.getfield 35) 14 := ⟨3, rfl, Or.inr rfl, rfl⟩
set_option maxRecDepth 100000 in
theorem lk198_14 : xAt kT198 14 (.aload_n 1) 15 := ⟨1, rfl, Or.inr rfl, rfl⟩
set_option maxRecDepth 100000 in
theorem lk198_15 : xAt kT198 15 (.invokevirtual 111) 18 := ⟨3, rfl, Or.inr rfl, rfl⟩
set_option maxRecDepth 100000 in
theorem lk198_18 : xAt kT198 18 (.pop) 19 := ⟨1, rfl, Or.inr rfl, rfl⟩
set_option maxRecDepth 100000 in
theorem lk198_19 : xAt kT198 19 (.return_) 20 := ⟨1, rfl, Or.inr rfl, rfl⟩
set_option maxRecDepth 100000 in
theorem lk197_0 : xAt kT197 0 (.aload_n 0) 1 := ⟨1, rfl, Or.inr rfl, rfl⟩
set_option maxRecDepth 100000 in
theorem lk197_1 : xAt kT197 1 (.getfield 31) 4 := ⟨3, rfl, Or.inr rfl, rfl⟩
set_option maxRecDepth 100000 in
theorem lk197_4 : xAt kT197 4 (.invokevirtual 55) 7 := ⟨3, rfl, Or.inr rfl, rfl⟩
set_option maxRecDepth 100000 in
theorem lk197_7 : xAt kT197 7 (.sipush 128) 10 := ⟨3, rfl, Or.inr rfl, rfl⟩
set_option maxRecDepth 100000 in
theorem lk197_10 : xAt kT197 10 (.if_icmp .lt 23) 13 := ⟨3, rfl, Or.inr rfl, rfl⟩
set_option maxRecDepth 100000 in
theorem lk197_13 : xAt kT197 13 (.aload_n 0) 14 := ⟨1, rfl, Or.inr rfl, rfl⟩
set_option maxRecDepth 100000 in
theorem lk197_14 : xAt kT197 14 (.dup) 15 := ⟨1, rfl, Or.inr rfl, rfl⟩
set_option maxRecDepth 100000 in
theorem lk197_15 : xAt kT197 15 (.getfield 108) 18 := ⟨3, rfl, Or.inr rfl, rfl⟩
set_option maxRecDepth 100000 in
theorem lk197_18 : xAt kT197 18 (.iconst 1) 19 := ⟨1, rfl, Or.inr rfl, rfl⟩
set_option maxRecDepth 100000 in
theorem lk197_19 : xAt kT197 19 (.iadd) 20 := ⟨1, rfl, Or.inr rfl, rfl⟩
set_option maxRecDepth 100000 in
theorem lk197_20 : xAt kT197 20 (.putfield 108) 23 := ⟨3, rfl, Or.inr rfl, rfl⟩
set_option maxRecDepth 100000 in
theorem lk197_23 : xAt kT197 23 (.aload_n 0) 24 := ⟨1, rfl, Or.inr rfl, rfl⟩
set_option maxRecDepth 100000 in
theorem lk197_24 : xAt kT197 24 (.getfield 35) 27 := ⟨3, rfl, Or.inr rfl, rfl⟩
set_option maxRecDepth 100000 in
theorem lk197_27 : xAt kT197 27 (.aload_n 1) 28 := ⟨1, rfl, Or.inr rfl, rfl⟩
set_option maxRecDepth 100000 in
theorem lk197_28 : xAt kT197 28 (.invokevirtual 111) 31 := ⟨3, rfl, Or.inr rfl, rfl⟩
set_option maxRecDepth 100000 in
theorem lk197_31 : xAt kT197 31 (.pop) 32 := ⟨1, rfl, Or.inr rfl, rfl⟩
set_option maxRecDepth 100000 in
theorem lk197_32 : xAt kT197 32 (.return_) 33 := ⟨1, rfl, Or.inr rfl, rfl⟩
set_option maxRecDepth 100000 in
theorem lk197_33 : xAt kT197 33 (.aload_n 1) 34 := ⟨1, rfl, Or.inr rfl, rfl⟩
set_option maxRecDepth 100000 in
theorem lk197_34 : xAt kT197 34 (.iload_n 2) 35 := ⟨1, rfl, Or.inr rfl, rfl⟩
set_option maxRecDepth 100000 in
theorem lk197_35 : xAt kT197 35 (.putfield 115) 38 := ⟨3, rfl, Or.inr rfl, rfl⟩
set_option maxRecDepth 100000 in
theorem lk197_38 : xAt kT197 38 (.aload_n 1) 39 := ⟨1, rfl, Or.inr rfl, rfl⟩
set_option maxRecDepth 100000 in
theorem lk197_39 : xAt kT197 39 (.aload_n 0) 40 := ⟨1, rfl, Or.inr rfl, rfl⟩
set_option maxRecDepth 100000 in
theorem lk197_40 : xAt kT197 40 (.getfield 118) 43 := ⟨3, rfl, Or.inr rfl, rfl⟩
set_option maxRecDepth 100000 in
theorem lk197_43 : xAt kT197 43 (.putfield 121) 46 := ⟨3, rfl, Or.inr rfl, rfl⟩
set_option maxRecDepth 100000 in
theorem lk197_46 : xAt kT197 46 (.aload_n 0) 47 := ⟨1, rfl, Or.inr rfl, rfl⟩
set_option maxRecDepth 100000 in
theorem lk197_47 : xAt kT197 47 (.dup) 48 := ⟨1, rfl, Or.inr rfl, rfl⟩
set_option maxRecDepth 100000 in
theorem lk197_48 : xAt kT197 48 (.getfield 118) 51 := ⟨3, rfl, Or.inr rfl, rfl⟩
set_option maxRecDepth 100000 in
theorem lk197_51 : xAt kT197 51 (.iconst 1) 52 := ⟨1, rfl, Or.inr rfl, rfl⟩
set_option maxRecDepth 100000 in
theorem lk197_52 : xAt kT197 52 (.iadd) 53 := ⟨1, rfl, Or.inr rfl, rfl⟩
set_option maxRecDepth 100000 in
theorem lk197_53 : xAt kT197 53 (.putfield 118) 56 := ⟨3, rfl, Or.inr rfl, rfl⟩
set_option maxRecDepth 100000 in
theorem lk197_56 : xAt kT197 56 (.aload_n 0) 57 := ⟨1, rfl, Or.inr rfl, rfl⟩
set_option maxRecDepth 100000 in
theorem lk197_57 : xAt kT197 57 (.dup) 58 := ⟨1, rfl, Or.inr rfl, rfl⟩
set_option maxRecDepth 100000 in
theorem lk197_58 : xAt kT197 58 (.getfield 124) 61 := ⟨3, rfl, Or.inr rfl, rfl⟩
set_option maxRecDepth 100000 in
theorem lk197_61 : xAt kT197 61 (.iconst 1) 62 := ⟨1, rfl, Or.inr rfl, rfl⟩
set_option maxRecDepth 100000 in
theorem lk197_62 : xAt kT197 62 (.iadd) 63 := ⟨1, rfl, Or.inr rfl, rfl⟩
set_option maxRecDepth 100000 in
theorem lk197_63 : xAt kT197 63 (.putfield 124) 66 := ⟨3, rfl, Or.inr rfl, rfl⟩
set_option maxRecDepth 100000 in
theorem lk197_66 : xAt kT197 66 (.aload_n 0) 67 := ⟨1, rfl, Or.inr rfl, rfl⟩
set_option maxRecDepth 100000 in
theorem lk197_67 : xAt kT197 67 (.getfield 31) 70 := ⟨3, rfl, Or.inr rfl, rfl⟩
set_option maxRecDepth 100000 in
theorem lk197_70 : xAt kT197 70 (.invokevirtual 55) 73 := ⟨3, rfl, Or.inr rfl, rfl⟩
set_option maxRecDepth 100000 in
theorem lk197_73 : xAt kT197 73 (.istore_n 3) 74 := ⟨1, rfl, Or.inr rfl, rfl⟩
set_option maxRecDepth 100000 in
theorem lk197_74 : xAt kT197 74 (.iload_n 3) 75 := ⟨1, rfl, Or.inr rfl, rfl⟩
set_option maxRecDepth 100000 in
theorem lk197_75 : xAt kT197 75 (.ifCond .le 29) 78 := ⟨3, rfl, Or.inr rfl, rfl⟩
set_option maxRecDepth 100000 in
theorem lk197_78 : xAt kT197 78 (.aload_n 0) 79 := ⟨1, rfl, Or.inr rfl, rfl⟩
set_option maxRecDepth 100000 in
theorem lk197_79 : xAt kT197 79 (.getfield 31) 82 := ⟨3, rfl, Or.inr rfl, rfl⟩
set_option maxRecDepth 100000 in
theorem lk197_82 : xAt kT197 82 (.iload_n 3) 83 := ⟨1, rfl, Or.inr rfl, rfl⟩
set_option maxRecDepth 100000 in
theorem lk197_83 : xAt kT197 83 (.iconst 1) 84 := ⟨1, rfl, Or.inr rfl, rfl⟩
set_option maxRecDepth 100000 in
theorem lk197_84 : xAt kT197 84 (.isub) 85 := ⟨1, rfl, Or.inr rfl, rfl⟩
set_option maxRecDepth 100000 in
theorem lk197_85 : xAt kT197 85 (.invokevirtual 127) 88 := ⟨3, rfl, Or.inr rfl, rfl⟩
set_option maxRecDepth 100000 in
theorem lk197_88 : xAt kT197 88 (.checkcast 52) 91 := ⟨3, rfl, Or.inr rfl, rfl⟩
set_option maxRecDepth 100000 in
theorem lk197_91 : xAt kT197 91 (.getfield 115) 94 := ⟨3, rfl, Or.inr rfl, rfl⟩
set_option maxRecDepth 100000 in
theorem lk197_94 : xAt kT197 94 (.iload_n 2) 95 := ⟨1, rfl, Or.inr rfl, rfl⟩
set_option maxRecDepth 100000 in
theorem lk197_95 : xAt kT197 95 (.if_icmp .le 9) 98 := ⟨3, rfl, Or.inr rfl, rfl⟩
set_option maxRecDepth 100000 in
theorem lk197_98 : xAt kT197 98 (.iinc 3 (-1)) 101 := ⟨3, rfl, Or.inr rfl, rfl⟩
set_option maxRecDepth 100000 in
theorem lk197_101 : xAt kT197 101 (.goto (-27)) 104 := ⟨3, rfl, Or.inr rfl, rfl⟩
set_option maxRecDepth 100000 in
theorem lk197_104 : xAt kT197 104 (.aload_n 0) 105 := ⟨1, rfl, Or.inr rfl, rfl⟩
set_option maxRecDepth 100000 in
theorem lk197_105 : xAt kT197 105 (.getfield 31) 108 := ⟨3, rfl, Or.inr rfl, rfl⟩
set_option maxRecDepth 100000 in
theorem lk197_108 : xAt kT197 108 (.iload_n 3) 109 := ⟨1, rfl, Or.inr rfl, rfl⟩
set_option maxRecDepth 100000 in
theorem lk197_109 : xAt kT197 109 (.aload_n 1) 110 := ⟨1, rfl, Or.inr rfl, rfl⟩
set_option maxRecDepth 100000 in
theorem lk197_110 : xAt kT197 110 (.invokevirtual 130) 113 := ⟨3, rfl, Or.inr rfl, rfl⟩
set_option maxRecDepth 100000 in
theorem lk197_113 : xAt kT197 113 (.return_) 114 := ⟨1, rfl, Or.inr rfl, rfl⟩
set_option maxRecDepth 100000 in
theorem lk189_0 : xAt kT189 0 (.aload_n 0) 1 := ⟨1, rfl, Or.inr rfl, rfl⟩
set_option maxRecDepth 100000 in
theorem lk189_1 : xAt kT189 1 (.aload_n 0) 2 := ⟨1, rfl, Or.inr rfl, rfl⟩
set_option maxRecDepth 100000 in
theorem lk189_2 : xAt kT189 2 (.getfield 100) 5 := ⟨3, rfl, Or.inr rfl, rfl⟩
set_option maxRecDepth 100000 in
theorem lk189_5 : xAt kT189 5 (.ldc2_w 104) 8 := ⟨3, rfl, Or.inr rfl, rfl⟩
set_option maxRecDepth 100000 in
theorem lk189_8 : xAt kT189 8 (.lmul) 9 := ⟨1, rfl, Or.inr rfl, rfl⟩
set_option maxRecDepth 100000 in
theorem lk189_9 : xAt kT189 9 (.ldc2_w 106) 12 := ⟨3, rfl, Or.inr rfl, rfl⟩
set_option maxRecDepth 100000 in
theorem lk189_12 : xAt kT189 12 (.ladd) 13 := ⟨1, rfl, Or.inr rfl, rfl⟩
set_option maxRecDepth 100000 in
theorem lk189_13 : xAt kT189 13 (.putfield 100) 16 := ⟨3, rfl, Or.inr rfl, rfl⟩
set_option maxRecDepth 100000 in
theorem lk189_16 : xAt kT189 16 (.iload_n 1) 17 := ⟨1, rfl, Or.inr rfl, rfl⟩
set_option maxRecDepth 100000 in
theorem lk189_17 : xAt kT189 17 (.iconst 1) 18 := ⟨1, rfl, Or.inr rfl, rfl⟩
set_option maxRecDepth 100000 in
theorem lk189_18 : xAt kT189 18 (.if_icmp .ge 7) 21 := ⟨3, rfl, Or.inr rfl, rfl⟩
set_option maxRecDepth 100000 in
theorem lk189_21 : xAt kT189 21 (.iconst 0) 22 := ⟨1, rfl, Or.inr rfl, rfl⟩
set_option maxRecDepth 100000 in
theorem lk189_22 : xAt kT189 22 (.goto 14) 25 := ⟨3, rfl, Or.inr rfl, rfl⟩
set_option maxRecDepth 100000 in
theorem lk189_25 : xAt kT189 25 (.aload_n 0) 26 := ⟨1, rfl, Or.inr rfl, rfl⟩
set_option maxRecDepth 100000 in
theorem lk189_26 : xAt kT189 26 (.getfield 100) 29 := ⟨3, rfl, Or.inr rfl, rfl⟩
set_option maxRecDepth 100000 in
theorem lk189_29 : xAt kT189 29 (.bipush 33) 31 := ⟨2, rfl, Or.inr rfl, rfl⟩
set_option maxRecDepth 100000 in
theorem lk189_31 : xAt kT189 31 (.lushr) 32 := ⟨1, rfl, Or.inr rfl, rfl⟩
set_option maxRecDepth 100000 in
theorem lk189_32 : xAt kT189 32 (.iload_n 1) 33 := ⟨1, rfl, Or.inr rfl, rfl⟩
set_option maxRecDepth 100000 in
theorem lk189_33 : xAt kT189 33 (.i2l) 34 := ⟨1, rfl, Or.inr rfl, rfl⟩
set_option maxRecDepth 100000 in
theorem lk189_34 : xAt kT189 34 (.lrem) 35 := ⟨1, rfl, Or.inr rfl, rfl⟩
set_option maxRecDepth 100000 in
theorem lk189_35 : xAt kT189 35 (.l2i) 36 := ⟨1, rfl, Or.inr rfl, rfl⟩
set_option maxRecDepth 100000 in
theorem lk189_36 : xAt kT189 36 (.ireturn) 37 := ⟨1, rfl, Or.inr rfl, rfl⟩
set_option maxRecDepth 100000 in
theorem lk59_0 : xAt kT59 0 (.aload_n 0) 1 := ⟨1, rfl, Or.inr rfl, rfl⟩
set_option maxRecDepth 100000 in
theorem lk59_1 : xAt kT59 1 (.aload_n 1) 2 := ⟨1, rfl, Or.inr rfl, rfl⟩
set_option maxRecDepth 100000 in
theorem lk59_2 : xAt kT59 2 (.getfield 19) 5 := ⟨3, rfl, Or.inr rfl, rfl⟩
set_option maxRecDepth 100000 in
theorem lk59_5 : xAt kT59 5 (.putfield 19) 8 := ⟨3, rfl, Or.inr rfl, rfl⟩
set_option maxRecDepth 100000 in
theorem lk59_8 : xAt kT59 8 (.aload_n 0) 9 := ⟨1, rfl, Or.inr rfl, rfl⟩
set_option maxRecDepth 100000 in
theorem lk59_9 : xAt kT59 9 (.aload_n 1) 10 := ⟨1, rfl, Or.inr rfl, rfl⟩
set_option maxRecDepth 100000 in
theorem lk59_10 : xAt kT59 10 (.getfield 23) 13 := ⟨3, rfl, Or.inr rfl, rfl⟩
set_option maxRecDepth 100000 in
theorem lk59_13 : xAt kT59 13 (.putfield 23) 16 := ⟨3, rfl, Or.inr rfl, rfl⟩
set_option maxRecDepth 100000 in
theorem lk59_16 : xAt kT59 16 (.aload_n 0) 17 := ⟨1, rfl, Or.inr rfl, rfl⟩
set_option maxRecDepth 100000 in
theorem lk59_17 : xAt kT59 17 (.aload_n 1) 18 := ⟨1, rfl, Or.inr rfl, rfl⟩
set_option maxRecDepth 100000 in
theorem lk59_18 : xAt kT59 18 (.getfield 26) 21 := ⟨3, rfl, Or.inr rfl, rfl⟩
set_option maxRecDepth 100000 in
theorem lk59_21 : xAt kT59 21 (.putfield 26) 24 := ⟨3, rfl, Or.inr rfl, rfl⟩
set_option maxRecDepth 100000 in
theorem lk59_24 : xAt kT59 24 (.aload_n 0) 25 := ⟨1, rfl, Or.inr rfl, rfl⟩
set_option maxRecDepth 100000 in
theorem lk59_25 : xAt kT59 25 (.aload_n 1) 26 := ⟨1, rfl, Or.inr rfl, rfl⟩
set_option maxRecDepth 100000 in
theorem lk59_26 : xAt kT59 26 (.getfield 29) 29 := ⟨3, rfl, Or.inr rfl, rfl⟩
set_option maxRecDepth 100000 in
theorem lk59_29 : xAt kT59 29 (.putfield 29) 32 := ⟨3, rfl, Or.inr rfl, rfl⟩
set_option maxRecDepth 100000 in
theorem lk59_32 : xAt kT59 32 (.aload_n 0) 33 := ⟨1, rfl, Or.inr rfl, rfl⟩
set_option maxRecDepth 100000 in
theorem lk59_33 : xAt kT59 33 (.aload_n 1) 34 := ⟨1, rfl, Or.inr rfl, rfl⟩
set_option maxRecDepth 100000 in
theorem lk59_34 : xAt kT59 34 (.getfield 32) 37 := ⟨3, rfl, Or.inr rfl, rfl⟩
set_option maxRecDepth 100000 in
theorem lk59_37 : xAt kT59 37 (.putfield 32) 40 := ⟨3, rfl, Or.inr rfl, rfl⟩
set_option maxRecDepth 100000 in
theorem lk59_40 : xAt kT59 40 (.aload_n 0) 41 := ⟨1, rfl, Or.inr rfl, rfl⟩
set_option maxRecDepth 100000 in
theorem lk59_41 : xAt kT59 41 (.aload_n 1) 42 := ⟨1, rfl, Or.inr rfl, rfl⟩
set_option maxRecDepth 100000 in
theorem lk59_42 : xAt kT59 42 (.getfield 35) 45 := ⟨3, rfl, Or.inr rfl, rfl⟩
set_option maxRecDepth 100000 in
theorem lk59_45 : xAt kT59 45 (.putfield 35) 48 := ⟨3, rfl, Or.inr rfl, rfl⟩
set_option maxRecDepth 100000 in
theorem lk59_48 : xAt kT59 48 (.aload_n 0) 49 := ⟨1, rfl, Or.inr rfl, rfl⟩
set_option maxRecDepth 100000 in
theorem lk59_49 : xAt kT59 49 (.aload_n 1) 50 := ⟨1, rfl, Or.inr rfl, rfl⟩
set_option maxRecDepth 100000 in
theorem lk59_50 : xAt kT59 50 (.getfield 38) 53 := ⟨3, rfl, Or.inr rfl, rfl⟩
set_option maxRecDepth 100000 in
theorem lk59_53 : xAt kT59 53 (.putfield 38) 56 := ⟨3, rfl, Or.inr rfl, rfl⟩
set_option maxRecDepth 100000 in
theorem lk59_56 : xAt kT59 56 (.aload_n 0) 57 := ⟨1, rfl, Or.inr rfl, rfl⟩
set_option maxRecDepth 100000 in
theorem lk59_57 : xAt kT59 57 (.aload_n 1) 58 := ⟨1, rfl, Or.inr rfl, rfl⟩
set_option maxRecDepth 100000 in
theorem lk59_58 : xAt kT59 58 (.getfield 41) 61 := ⟨3, rfl, Or.inr rfl, rfl⟩
set_option maxRecDepth 100000 in
theorem lk59_61 : xAt kT59 61 (.putfield 41) 64 := ⟨3, rfl, Or.inr rfl, rfl⟩
set_option maxRecDepth 100000 in
theorem lk59_64 : xAt kT59 64 (.aload_n 0) 65 := ⟨1, rfl, Or.inr rfl, rfl⟩
set_option maxRecDepth 100000 in
theorem lk59_65 : xAt kT59 65 (.aload_n 1) 66 := ⟨1, rfl, Or.inr rfl, rfl⟩
set_option maxRecDepth 100000 in
theorem lk59_66 : xAt kT59 66 (.getfield 44) 69 := ⟨3, rfl, Or.inr rfl, rfl⟩
set_option maxRecDepth 100000 in
theorem lk59_69 : xAt kT59 69 (.putfield 44) 72 := ⟨3, rfl, Or.inr rfl, rfl⟩
set_option maxRecDepth 100000 in
theorem lk59_72 : xAt kT59 72 (.aload_n 0) 73 := ⟨1, rfl, Or.inr rfl, rfl⟩
set_option maxRecDepth 100000 in
theorem lk59_73 : xAt kT59 73 (.aload_n 1) 74 := ⟨1, rfl, Or.inr rfl, rfl⟩
set_option maxRecDepth 100000 in
theorem lk59_74 : xAt kT59 74 (.getfield 47) 77 := ⟨3, rfl, Or.inr rfl, rfl⟩
set_option maxRecDepth 100000 in
theorem lk59_77 : xAt kT59 77 (.putfield 47) 80 := ⟨3, rfl, Or.inr rfl, rfl⟩
set_option maxRecDepth 100000 in
theorem lk59_80 : xAt kT59 80 (.aload_n 0) 81 := ⟨1, rfl, Or.inr rfl, rfl⟩
set_option maxRecDepth 100000 in
theorem lk59_81 : xAt kT59 81 (.aload_n 1) 82 := ⟨1, rfl, Or.inr rfl, rfl⟩
set_option maxRecDepth 100000 in
theorem lk59_82 : xAt kT59 82 (.getfield 50) 85 := ⟨3, rfl, Or.inr rfl, rfl⟩
set_option maxRecDepth 100000 in
theorem lk59_85 : xAt kT59 85 (.putfield 50) 88 := ⟨3, rfl, Or.inr rfl, rfl⟩
set_option maxRecDepth 100000 in
theorem lk59_88 : xAt kT59 88 (.aload_n 0) 89 := ⟨1, rfl, Or.inr rfl, rfl⟩
set_option maxRecDepth 100000 in
theorem lk59_89 : xAt kT59 89 (.aload_n 1) 90 := ⟨1, rfl, Or.inr rfl, rfl⟩
set_option maxRecDepth 100000 in
theorem lk59_90 : xAt kT59 90 (.getfield 53) 93 := ⟨3, rfl, Or.inr rfl, rfl⟩
set_option maxRecDepth 100000 in
theorem lk59_93 : xAt kT59 93 (.putfield 53) 96 := ⟨3, rfl, Or.inr rfl, rfl⟩
set_option maxRecDepth 100000 in
theorem lk59_96 : xAt kT59 96 (.aload_n 0) 97 := ⟨1, rfl, Or.inr rfl, rfl⟩
set_option maxRecDepth 100000 in
theorem lk59_97 : xAt kT59 97 (.aload_n 1) 98 := ⟨1, rfl, Or.inr rfl, rfl⟩
set_option maxRecDepth 100000 in
theorem lk59_98 : xAt kT59 98 (.getfield 56) 101 := ⟨3, rfl, Or.inr rfl, rfl⟩
set_option maxRecDepth 100000 in
theorem lk59_101 : xAt kT59 101 (.putfield 56) 104 := ⟨3, rfl, Or.inr rfl, rfl⟩
set_option maxRecDepth 100000 in
theorem lk59_104 : xAt kT59 104 (.aload_n 0) 105 := ⟨1, rfl, Or.inr rfl, rfl⟩
set_option maxRecDepth 100000 in
theorem lk59_105 : xAt kT59 105 (.aload_n 1) 106 := ⟨1, rfl, Or.inr rfl, rfl⟩
set_option maxRecDepth 100000 in
theorem lk59_106 : xAt kT59 106 (.getfield 59) 109 := ⟨3, rfl, Or.inr rfl, rfl⟩
set_option maxRecDepth 100000 in
theorem lk59_109 : xAt kT59 109 (.putfield 59) 112 := ⟨3, rfl, Or.inr rfl, rfl⟩
set_option maxRecDepth 100000 in
theorem lk59_112 : xAt kT59 112 (.aload_n 0) 113 := ⟨1, rfl, Or.inr rfl, rfl⟩
set_option maxRecDepth 100000 in
theorem lk59_113 : xAt kT59 113 (.aload_n 1) 114 := ⟨1, rfl, Or.inr rfl, rfl⟩
set_option maxRecDepth 100000 in
theorem lk59_114 : xAt kT59 114 (.getfield 62) 117 := ⟨3, rfl, Or.inr rfl, rfl⟩
set_option maxRecDepth 100000 in
theorem lk59_117 : xAt kT59 117 (.putfield 62) 120 := ⟨3, rfl, Or.inr rfl, rfl⟩
set_option maxRecDepth 100000 in
theorem lk59_120 : xAt kT59 120 (.aload_n 0) 121 := ⟨1, rfl, Or.inr rfl, rfl⟩
set_option maxRecDepth 100000 in
theorem lk59_121 : xAt kT59 121 (.aload_n 1) 122 := ⟨1, rfl, Or.inr rfl, rfl⟩
set_option maxRecDepth 100000 in
theorem lk59_122 : xAt kT59 122 (.getfield 65) 125 := ⟨3, rfl, Or.inr rfl, rfl⟩
set_option maxRecDepth 100000 in
theorem lk59_125 : xAt kT59 125 (.putfield 65) 128 := ⟨3, rfl, Or.inr rfl, rfl⟩
set_option maxRecDepth 100000 in
theorem lk59_128 : xAt kT59 128 (.aload_n 1) 129 := ⟨1, rfl, Or.inr rfl, rfl⟩
set_option maxRecDepth 100000 in
theorem lk59_129 : xAt kT59 129 (.getfield 9) 132 := ⟨3, rfl, Or.inr rfl, rfl⟩
set_option maxRecDepth 100000 in
theorem lk59_132 : xAt kT59 132 (.iconst 0) 133 := ⟨1, rfl, Or.inr rfl, rfl⟩
set_option maxRecDepth 100000 in
theorem lk59_133 : xAt kT59 133 (.aload_n 0) 134 := ⟨1, rfl, Or.inr rfl, rfl⟩
set_option maxRecDepth 100000 in
theorem lk59_134 : xAt kT59 134 (.getfield 9) 137 := ⟨3, rfl, Or.inr rfl, rfl⟩
set_option maxRecDepth 100000 in
theorem lk59_137 : xAt kT59 137 (.iconst 0) 138 := ⟨1, rfl, Or.inr rfl, rfl⟩
set_option maxRecDepth 100000 in
theorem lk59_138 : xAt kT59 138 (.aload_n 0) 139 := ⟨1, rfl, Or.inr rfl, rfl⟩
set_option maxRecDepth 100000 in
theorem lk59_139 : xAt kT59 139 (.getfield 9) 142 := ⟨3, rfl, Or.inr rfl, rfl⟩
set_option maxRecDepth 100000 in
theorem lk59_142 : xAt kT59 142 (.arraylength) 143 := ⟨1, rfl, Or.inr rfl, rfl⟩
set_option maxRecDepth 100000 in
theorem lk59_143 : xAt kT59 143 (.invokestatic 68) 146 := ⟨3, rfl, Or.inr rfl, rfl⟩
set_option maxRecDepth 100000 in
theorem lk59_146 : xAt kT59 146 (.aload_n 1) 147 := ⟨1, rfl, Or.inr rfl, rfl⟩
set_option maxRecDepth 100000 in
theorem lk59_147 : xAt kT59 147 (.getfield 15) 150 := ⟨3, rfl, Or.inr rfl, rfl⟩
set_option maxRecDepth 100000 in
theorem lk59_150 : xAt kT59 150 (.iconst 0) 151 := ⟨1, rfl, Or.inr rfl, rfl⟩
set_option maxRecDepth 100000 in
theorem lk59_151 : xAt kT59 151 (.aload_n 0) 152 := ⟨1, rfl, Or.inr rfl, rfl⟩
set_option maxRecDepth 100000 in
theorem lk59_152 : xAt kT59 152 (.getfield 15) 155 := ⟨3, rfl, Or.inr rfl, rfl⟩
set_option maxRecDepth 100000 in
theorem lk59_155 : xAt kT59 155 (.iconst 0) 156 := ⟨1, rfl, Or.inr rfl, rfl⟩
set_option maxRecDepth 100000 in
theorem lk59_156 : xAt kT59 156 (.aload_n 0) 157 := ⟨1, rfl, Or.inr rfl, rfl⟩
set_option maxRecDepth 100000 in
theorem lk59_157 : xAt kT59 157 (.getfield 15) 160 := ⟨3, rfl, Or.inr rfl, rfl⟩
set_option maxRecDepth 100000 in
theorem lk59_160 : xAt kT59 160 (.arraylength) 161 := ⟨1, rfl, Or.inr rfl, rfl⟩
set_option maxRecDepth 100000 in
theorem lk59_161 : xAt kT59 161 (.invokestatic 68) 164 := ⟨3, rfl, Or.inr rfl, rfl⟩
set_option maxRecDepth 100000 in
theorem lk59_164 : xAt kT59 164 (.return_) 165 := ⟨1, rfl, Or.inr rfl, rfl⟩
set_option maxRecDepth 100000 in
theorem lk199_0 : xAt kT199 0 (.aload_n 0) 1 := ⟨1, rfl, Or.inr rfl, rfl⟩
set_option maxRecDepth 100000 in
theorem lk199_1 : xAt kT199 1 (.aload_n 1) 2 := ⟨1, rfl, Or.inr rfl, rfl⟩
set_option maxRecDepth 100000 in
theorem lk199_2 : xAt kT199 2 (.getfield 63) 5 := ⟨3, rfl, Or.inr rfl, rfl⟩
set_option maxRecDepth 100000 in
theorem lk199_5 : xAt kT199 5 (.aload_n 1) 6 := ⟨1, rfl, Or.inr rfl, rfl⟩
set_option maxRecDepth 100000 in
theorem lk199_6 : xAt kT199 6 (.getfield 66) 9 := ⟨3, rfl, Or.inr rfl, rfl⟩
set_option maxRecDepth 100000 in
theorem lk199_9 : xAt kT199 9 (.invokevirtual 69) 12 := ⟨3, rfl, Or.inr rfl, rfl⟩
set_option maxRecDepth 100000 in
theorem lk199_12 : xAt kT199 12 (.ifCond .eq 9) 15 := ⟨3, rfl, Or.inr rfl, rfl⟩
set_option maxRecDepth 100000 in
theorem lk199_15 : xAt kT199 15 (.aload_n 0) 16 := ⟨1, rfl, Or.inr rfl, rfl⟩
set_option maxRecDepth 100000 in
theorem lk199_16 : xAt kT199 16 (.aload_n 1) 17 := ⟨1, rfl, Or.inr rfl, rfl⟩
set_option maxRecDepth 100000 in
theorem lk199_17 : xAt kT199 17 (.invokevirtual 73) 20 := ⟨3, rfl, Or.inr rfl, rfl⟩
set_option maxRecDepth 100000 in
theorem lk199_20 : xAt kT199 20 (.return_) 21 := ⟨1, rfl, Or.inr rfl, rfl⟩
set_option maxRecDepth 100000 in
theorem lk199_21 : xAt kT199 21 (.aload_n 0) 22 := ⟨1, rfl, Or.inr rfl, rfl⟩
set_option maxRecDepth 100000 in
theorem lk199_22 : xAt kT199 22 (.getfield 77) 25 := ⟨3, rfl, Or.inr rfl, rfl⟩
set_option maxRecDepth 100000 in
theorem lk199_25 : xAt kT199 25 (.aload_n 0) 26 := ⟨1, rfl, Or.inr rfl, rfl⟩
set_option maxRecDepth 100000 in
theorem lk199_26 : xAt kT199 26 (.getfield 18) 29 := ⟨3, rfl, Or.inr rfl, rfl⟩
set_option maxRecDepth 100000 in
theorem lk199_29 : xAt kT199 29 (.aload_n 1) 30 := ⟨1, rfl, Or.inr rfl, rfl⟩
set_option maxRecDepth 100000 in
theorem lk199_30 : xAt kT199 30 (.getfield 63) 33 := ⟨3, rfl, Or.inr rfl, rfl⟩
set_option maxRecDepth 100000 in
theorem lk199_33 : xAt kT199 33 (.bipush 16) 35 := ⟨2, rfl, Or.inr rfl, rfl⟩
set_option maxRecDepth 100000 in
theorem lk199_35 : xAt kT199 35 (.imul) 36 := ⟨1, rfl, Or.inr rfl, rfl⟩
set_option maxRecDepth 100000 in
theorem lk199_36 : xAt kT199 36 (.aload_n 1) 37 := ⟨1, rfl, Or.inr rfl, rfl⟩
set_option maxRecDepth 100000 in
theorem lk199_37 : xAt kT199 37 (.getfield 66) 40 := ⟨3, rfl, Or.inr rfl, rfl⟩
set_option maxRecDepth 100000 in
theorem lk199_40 : xAt kT199 40 (.iadd) 41 := ⟨1, rfl, Or.inr rfl, rfl⟩
set_option maxRecDepth 100000 in
theorem lk199_41 : xAt kT199 41 (.iaload) 42 := ⟨1, rfl, Or.inr rfl, rfl⟩
set_option maxRecDepth 100000 in
theorem lk199_42 : xAt kT199 42 (.iadd) 43 := ⟨1, rfl, Or.inr rfl, rfl⟩
set_option maxRecDepth 100000 in
theorem lk199_43 : xAt kT199 43 (.istore_n 2) 44 := ⟨1, rfl, Or.inr rfl, rfl⟩
set_option maxRecDepth 100000 in
theorem lk199_44 : xAt kT199 44 (.aload_n 0) 45 := ⟨1, rfl, Or.inr rfl, rfl⟩
set_option maxRecDepth 100000 in
theorem lk199_45 : xAt kT199 45 (.getfield 80) 48 := ⟨3, rfl, Or.inr rfl, rfl⟩
set_option maxRecDepth 100000 in
theorem lk199_48 : xAt kT199 48 (.ifCond .ne 24) 51 := ⟨3, rfl, Or.inr rfl, rfl⟩
set_option maxRecDepth 100000 in
theorem lk199_51 : xAt kT199 51 (.aload_n 0) 52 := ⟨1, rfl, Or.inr rfl, rfl⟩
set_option maxRecDepth 100000 in
theorem lk199_52 : xAt kT199 52 (.getfield 83) 55 := ⟨3, rfl, Or.inr rfl, rfl⟩
set_option maxRecDepth 100000 in
theorem lk199_55 : xAt kT199 55 (.ifCond .ne 17) 58 := ⟨3, rfl, Or.inr rfl, rfl⟩
set_option maxRecDepth 100000 in
theorem lk199_58 : xAt kT199 58 (.aload_n 0) 59 := ⟨1, rfl, Or.inr rfl, rfl⟩
set_option maxRecDepth 100000 in
theorem lk199_59 : xAt kT199 59 (.getfield 86) 62 := ⟨3, rfl, Or.inr rfl, rfl⟩
set_option maxRecDepth 100000 in
theorem lk199_62 : xAt kT199 62 (.ifCond .ne 10) 65 := ⟨3, rfl, Or.inr rfl, rfl⟩
set_option maxRecDepth 100000 in
theorem lk199_65 : xAt kT199 65 (.aload_n 0) 66 := ⟨1, rfl, Or.inr rfl, rfl⟩
set_option maxRecDepth 100000 in
theorem lk199_66 : xAt kT199 66 (.aload_n 1) 67 := ⟨1, rfl, Or.inr rfl, rfl⟩
set_option maxRecDepth 100000 in
theorem lk199_67 : xAt kT199 67 (.iload_n 2) 68 := ⟨1, rfl, Or.inr rfl, rfl⟩
set_option maxRecDepth 100000 in
theorem lk199_68 : xAt kT199 68 (.invokevirtual 89) 71 := ⟨3, rfl, Or.inr rfl, rfl⟩
set_option maxRecDepth 100000 in
theorem lk199_71 : xAt kT199 71 (.return_) 72 := ⟨1, rfl, Or.inr rfl, rfl⟩
set_option maxRecDepth 100000 in
theorem lk199_72 : xAt kT199 72 (.aload_n 0) 73 := ⟨1, rfl, Or.inr rfl, rfl⟩
set_option maxRecDepth 100000 in
theorem lk199_73 : xAt kT199 73 (.sipush 1000) 76 := ⟨3, rfl, Or.inr rfl, rfl⟩
set_option maxRecDepth 100000 in
theorem lk199_76 : xAt kT199 76 (.invokevirtual 93) 79 := ⟨3, rfl, Or.inr rfl, rfl⟩
set_option maxRecDepth 100000 in
theorem lk199_79 : xAt kT199 79 (.aload_n 0) 80 := ⟨1, rfl, Or.inr rfl, rfl⟩
set_option maxRecDepth 100000 in
theorem lk199_80 : xAt kT199 80 (.getfield 80) 83 := ⟨3, rfl, Or.inr rfl, rfl⟩
set_option maxRecDepth 100000 in
theorem lk199_83 : xAt kT199 83 (.if_icmp .ge 9) 86 := ⟨3, rfl, Or.inr rfl, rfl⟩
set_option maxRecDepth 100000 in
theorem lk199_86 : xAt kT199 86 (.aload_n 0) 87 := ⟨1, rfl, Or.inr rfl, rfl⟩
set_option maxRecDepth 100000 in
theorem lk199_87 : xAt kT199 87 (.aload_n 1) 88 := ⟨1, rfl, Or.inr rfl, rfl⟩
set_option maxRecDepth 100000 in
theorem lk199_88 : xAt kT199 88 (.invokevirtual 73) 91 := ⟨3, rfl, Or.inr rfl, rfl⟩
set_option maxRecDepth 100000 in
theorem lk199_91 : xAt kT199 91 (.return_) 92 := ⟨1, rfl, Or.inr rfl, rfl⟩
set_option maxRecDepth 100000 in
theorem lk199_92 : xAt kT199 92 (.aload_n 0) 93 := ⟨1, rfl, Or.inr rfl, rfl⟩
set_option maxRecDepth 100000 in
theorem lk199_93 : xAt kT199 93 (.sipush 1000) 96 := ⟨3, rfl, Or.inr rfl, rfl⟩
set_option maxRecDepth 100000 in
theorem lk199_96 : xAt kT199 96 (.invokevirtual 93) 99 := ⟨3, rfl, Or.inr rfl, rfl⟩
set_option maxRecDepth 100000 in
theorem lk199_99 : xAt kT199 99 (.aload_n 0) 100 := ⟨1, rfl, Or.inr rfl, rfl⟩
set_option maxRecDepth 100000 in
theorem lk199_100 : xAt kT199 100 (.getfield 83) 103 := ⟨3, rfl, Or.inr rfl, rfl⟩
set_option maxRecDepth 100000 in
theorem lk199_103 : xAt kT199 103 (.if_icmp .ge 7) 106 := ⟨3, rfl, Or.inr rfl, rfl⟩
set_option maxRecDepth 100000 in
theorem lk199_106 : xAt kT199 106 (.iconst 1) 107 := ⟨1, rfl, Or.inr rfl, rfl⟩
set_option maxRecDepth 100000 in
theorem lk199_107 : xAt kT199 107 (.goto 4) 110 := ⟨3, rfl, Or.inr rfl, rfl⟩
set_option maxRecDepth 100000 in
theorem lk199_110 : xAt kT199 110 (.iconst 0) 111 := ⟨1, rfl, Or.inr rfl, rfl⟩
set_option maxRecDepth 100000 in
theorem lk199_111 : xAt kT199 111 (.istore_n 3) 112 := ⟨1, rfl, Or.inr rfl, rfl⟩
set_option maxRecDepth 100000 in
theorem lk199_112 : xAt kT199 112 (.iload_n 3) 113 := ⟨1, rfl, Or.inr rfl, rfl⟩
set_option maxRecDepth 100000 in
theorem lk199_113 : xAt kT199 113 (.ifCond .ne 7) 116 := ⟨3, rfl, Or.inr rfl, rfl⟩
set_option maxRecDepth 100000 in
theorem lk199_116 : xAt kT199 116 (.aconst_null) 117 := ⟨1, rfl, Or.inr rfl, rfl⟩
set_option maxRecDepth 100000 in
theorem lk199_117 : xAt kT199 117 (.goto 42) 120 := ⟨3, rfl, Or.inr rfl, rfl⟩
set_option maxRecDepth 100000 in
theorem lk199_120 : xAt kT199 120 (.aload_n 0) 121 := ⟨1, rfl, Or.inr rfl, rfl⟩
set_option maxRecDepth 100000 in
theorem lk199_121 : xAt kT199 121 (.getfield 35) 124 := ⟨3, rfl, Or.inr rfl, rfl⟩
set_option maxRecDepth 100000 in
theorem lk199_124 : xAt kT199 124 (.invokevirtual 48) 127 := ⟨3, rfl, Or.inr rfl, rfl⟩
set_option maxRecDepth 100000 in
theorem lk199_127 : xAt kT199 127 (.ifCond .eq 13) 130 := ⟨3, rfl, Or.inr rfl, rfl⟩
set_option maxRecDepth 100000 in
theorem lk199_130 : xAt kT199 130 (.new 52) 133 := ⟨3, rfl, Or.inr rfl, rfl⟩
set_option maxRecDepth 100000 in
theorem lk199_133 : xAt kT199 133 (.dup) 134 := ⟨1, rfl, Or.inr rfl, rfl⟩
set_option maxRecDepth 100000 in
theorem lk199_134 : xAt kT199 134 (.invokespecial 54) 137 := ⟨3, rfl, Or.inr rfl, rfl⟩
set_option maxRecDepth 100000 in
theorem lk199_137 : xAt kT199 137 (.goto 22) 140 := ⟨3, rfl, Or.inr rfl, rfl⟩
set_option maxRecDepth 100000 in
theorem lk199_140 : xAt kT199 140 (.aload_n 0) 141 := ⟨1, rfl, Or.inr rfl, rfl⟩
set_option maxRecDepth 100000 in
theorem lk199_141 : xAt kT199 141 (.getfield 35) 144 := ⟨3, rfl, Or.inr rfl, rfl⟩
set_option maxRecDepth 100000 in
theorem lk199_144 : xAt kT199 144 (.aload_n 0) 145 := ⟨1, rfl, Or.inr rfl, rfl⟩
set_option maxRecDepth 100000 in
theorem lk199_145 : xAt kT199 145 (.getfield 35) 148 := ⟨3, rfl, Or.inr rfl, rfl⟩
set_option maxRecDepth 100000 in
theorem lk199_148 : xAt kT199 148 (.invokevirtual 55) 151 := ⟨3, rfl, Or.inr rfl, rfl⟩
set_option maxRecDepth 100000 in
theorem lk199_151 : xAt kT199 151 (.iconst 1) 152 := ⟨1, rfl, Or.inr rfl, rfl⟩
set_option maxRecDepth 100000 in
theorem lk199_152 : xAt kT199 152 (.isub) 153 := ⟨1, rfl, Or.inr rfl, rfl⟩
set_option maxRecDepth 100000 in
theorem lk199_153 : xAt kT199 153 (.invokevirtual 59) 156 := ⟨3, rfl, Or.inr rfl, rfl⟩
set_option maxRecDepth 100000 in
theorem lk199_156 : xAt kT199 156 (.checkcast 52) 159 := ⟨3, rfl, Or.inr rfl, rfl⟩
set_option maxRecDepth 100000 in
theorem lk199_159 : xAt kT199 159 (.astore 4) 161 := ⟨2, rfl, Or.inr rfl, rfl⟩
set_option maxRecDepth 100000 in
theorem lk199_161 : xAt kT199 161 (.aload 4) 163 := ⟨2, rfl, Or.inr rfl, rfl⟩
set_option maxRecDepth 100000 in
theorem lk199_163 : xAt kT199 163 (.ifnull 9) 166 := ⟨3, rfl, Or.inr rfl, rfl⟩
set_option maxRecDepth 100000 in
theorem lk199_166 : xAt kT199 166 (.aload 4) 168 := ⟨2, rfl, Or.inr rfl, rfl⟩
set_option maxRecDepth 100000 in
theorem lk199_168 : xAt kT199 168 (.aload_n 1) 169 := ⟨1, rfl, Or.inr rfl, rfl⟩
set_option maxRecDepth 100000 in
theorem lk199_169 : xAt kT199 169 (.invokevirtual 97) 172 := ⟨3, rfl, Or.inr rfl, rfl⟩
set_option maxRecDepth 100000 in
theorem lk199_172 : xAt kT199 172 (.aload_n 0) 173 := ⟨1, rfl, Or.inr rfl, rfl⟩
set_option maxRecDepth 100000 in
theorem lk199_173 : xAt kT199 173 (.aload_n 1) 174 := ⟨1, rfl, Or.inr rfl, rfl⟩
set_option maxRecDepth 100000 in
theorem lk199_174 : xAt kT199 174 (.iload_n 2) 175 := ⟨1, rfl, Or.inr rfl, rfl⟩
set_option maxRecDepth 100000 in
theorem lk199_175 : xAt kT199 175 (.aload_n 0) 176 := ⟨1, rfl, Or.inr rfl, rfl⟩
set_option maxRecDepth 100000 in
theorem lk199_176 : xAt kT199 176 (.aload_n 0) 177 := ⟨1, rfl, Or.inr rfl, rfl⟩
set_option maxRecDepth 100000 in
theorem lk199_177 : xAt kT199 177 (.getfield 86) 180 := ⟨3, rfl, Or.inr rfl, rfl⟩
set_option maxRecDepth 100000 in
theorem lk199_180 : xAt kT199 180 (.iconst 1) 181 := ⟨1, rfl, Or.inr rfl, rfl⟩
set_option maxRecDepth 100000 in
theorem lk199_181 : xAt kT199 181 (.iadd) 182 := ⟨1, rfl, Or.inr rfl, rfl⟩
set_option maxRecDepth 100000 in
theorem lk199_182 : xAt kT199 182 (.invokevirtual 93) 185 := ⟨3, rfl, Or.inr rfl, rfl⟩
set_option maxRecDepth 100000 in
theorem lk199_185 : xAt kT199 185 (.iadd) 186 := ⟨1, rfl, Or.inr rfl, rfl⟩
set_option maxRecDepth 100000 in
theorem lk199_186 : xAt kT199 186 (.invokevirtual 89) 189 := ⟨3, rfl, Or.inr rfl, rfl⟩
set_option maxRecDepth 100000 in
theorem lk199_189 : xAt kT199 189 (.aload 4) 191 := ⟨2, rfl, Or.inr rfl, rfl⟩
set_option maxRecDepth 100000 in
theorem lk199_191 : xAt kT199 191 (.ifnull 21) 194 := ⟨3, rfl, Or.inr rfl, rfl⟩
set_option maxRecDepth 100000 in
theorem lk199_194 : xAt kT199 194 (.aload_n 0) 195 := ⟨1, rfl, Or.inr rfl, rfl⟩
set_option maxRecDepth 100000 in
theorem lk199_195 : xAt kT199 195 (.aload 4) 197 := ⟨2, rfl, Or.inr rfl, rfl⟩
set_option maxRecDepth 100000 in
theorem lk199_197 : xAt kT199 197 (.iload_n 2) 198 := ⟨1, rfl, Or.inr rfl, rfl⟩
set_option maxRecDepth 100000 in
theorem lk199_198 : xAt kT199 198 (.aload_n 0) 199 := ⟨1, rfl, Or.inr rfl, rfl⟩
set_option maxRecDepth 100000 in
theorem lk199_199 : xAt kT199 199 (.aload_n 0) 200 := ⟨1, rfl, Or.inr rfl, rfl⟩
set_option maxRecDepth 100000 in
theorem lk199_200 : xAt kT199 200 (.getfield 86) 203 := ⟨3, rfl, Or.inr rfl, rfl⟩
set_option maxRecDepth 100000 in
theorem lk199_203 : xAt kT199 203 (.iconst 1) 204 := ⟨1, rfl, Or.inr rfl, rfl⟩
set_option maxRecDepth 100000 in
theorem lk199_204 : xAt kT199 204 (.iadd) 205 := ⟨1, rfl, Or.inr rfl, rfl⟩
set_option maxRecDepth 100000 in
theorem lk199_205 : xAt kT199 205 (.invokevirtual 93) 208 := ⟨3, rfl, Or.inr rfl, rfl⟩
set_option maxRecDepth 100000 in
theorem lk199_208 : xAt kT199 208 (.iadd) 209 := ⟨1, rfl, Or.inr rfl, rfl⟩
set_option maxRecDepth 100000 in
theorem lk199_209 : xAt kT199 209 (.invokevirtual 89) 212 := ⟨3, rfl, Or.inr rfl, rfl⟩
set_option maxRecDepth 100000 in
theorem lk199_212 : xAt kT199 212 (.return_) 213 := ⟨1, rfl, Or.inr rfl, rfl⟩
set_option maxRecDepth 100000 in
theorem lk200_0 : xAt kT200 0 (.aload_n 0) 1 := ⟨1, rfl, Or.inr rfl, rfl⟩
set_option maxRecDepth 100000 in
theorem lk200_1 : xAt kT200 1 (.getfield 9) 4 := ⟨3, rfl, Or.inr rfl, rfl⟩
set_option maxRecDepth 100000 in
theorem lk200_4 : xAt kT200 4 (.iload_n 1) 5 := ⟨1, rfl, Or.inr rfl, rfl⟩
set_option maxRecDepth 100000 in
theorem lk200_5 : xAt kT200 5 (.iload_n 2) 6 := ⟨1, rfl, Or.inr rfl, rfl⟩
set_option maxRecDepth 100000 in
theorem lk200_6 : xAt kT200 6 (.iastore) 7 := ⟨1, rfl, Or.inr rfl, rfl⟩
set_option maxRecDepth 100000 in
theorem lk200_7 : xAt kT200 7 (.aload_n 0) 8 := ⟨1, rfl, Or.inr rfl, rfl⟩
set_option maxRecDepth 100000 in
theorem lk200_8 : xAt kT200 8 (.getfield 15) 11 := ⟨3, rfl, Or.inr rfl, rfl⟩
set_option maxRecDepth 100000 in
theorem lk200_11 : xAt kT200 11 (.iload_n 1) 12 := ⟨1, rfl, Or.inr rfl, rfl⟩
set_option maxRecDepth 100000 in
theorem lk200_12 : xAt kT200 12 (.aload_n 0) 13 := ⟨1, rfl, Or.inr rfl, rfl⟩
set_option maxRecDepth 100000 in
theorem lk200_13 : xAt kT200 13 (.getfield 118) 16 := ⟨3, rfl, Or.inr rfl, rfl⟩
set_option maxRecDepth 100000 in
theorem lk200_16 : xAt kT200 16 (.iastore) 17 := ⟨1, rfl, Or.inr rfl, rfl⟩
set_option maxRecDepth 100000 in
theorem lk200_17 : xAt kT200 17 (.aload_n 0) 18 := ⟨1, rfl, Or.inr rfl, rfl⟩
set_option maxRecDepth 100000 in
theorem lk200_18 : xAt kT200 18 (.dup) 19 := ⟨1, rfl, Or.inr rfl, rfl⟩
set_option maxRecDepth 100000 in
theorem lk200_19 : xAt kT200 19 (.getfield 118) 22 := ⟨3, rfl, Or.inr rfl, rfl⟩
set_option maxRecDepth 100000 in
theorem lk200_22 : xAt kT200 22 (.iconst 1) 23 := ⟨1, rfl, Or.inr rfl, rfl⟩
set_option maxRecDepth 100000 in
theorem lk200_23 : xAt kT200 23 (.iadd) 24 := ⟨1, rfl, Or.inr rfl, rfl⟩
set_option maxRecDepth 100000 in
theorem lk200_24 : xAt kT200 24 (.putfield 118) 27 := ⟨3, rfl, Or.inr rfl, rfl⟩
set_option maxRecDepth 100000 in
theorem lk200_27 : xAt kT200 27 (.return_) 28 := ⟨1, rfl, Or.inr rfl, rfl⟩
set_option maxRecDepth 100000 in
theorem lk29_0 : xAt kT29 0 (.aload_n 0) 1 := ⟨1, rfl, Or.inr rfl, rfl⟩
set_option maxRecDepth 100000 in
theorem lk29_1 : xAt kT29 1 (.getfield 25) 4 := ⟨3, rfl, Or.inr rfl, rfl⟩
set_option maxRecDepth 100000 in
theorem lk29_4 : xAt kT29 4 (.aload_n 0) 5 := ⟨1, rfl, Or.inr rfl, rfl⟩
set_option maxRecDepth 100000 in
theorem lk29_5 : xAt kT29 5 (.getfield 22) 8 := ⟨3, rfl, Or.inr rfl, rfl⟩
set_option maxRecDepth 100000 in
theorem lk29_8 : xAt kT29 8 (.aload_n 0) 9 := ⟨1, rfl, Or.inr rfl, rfl⟩
set_option maxRecDepth 100000 in
theorem lk29_9 : xAt kT29 9 (.getfield 25) 12 := ⟨3, rfl, Or.inr rfl, rfl⟩
set_option maxRecDepth 100000 in
theorem lk29_12 : xAt kT29 12 (.getfield 108) 15 := ⟨3, rfl, Or.inr rfl, rfl⟩
set_option maxRecDepth 100000 in
theorem lk29_15 : xAt kT29 15 (.iload_n 1) 16 := ⟨1, rfl, Or.inr rfl, rfl⟩
set_option maxRecDepth 100000 in
theorem lk29_16 : xAt kT29 16 (.iadd) 17 := ⟨1, rfl, Or.inr rfl, rfl⟩
set_option maxRecDepth 100000 in
theorem lk29_17 : xAt kT29 17 (.invokevirtual 111) 20 := ⟨3, rfl, Or.inr rfl, rfl⟩
set_option maxRecDepth 100000 in
theorem lk29_20 : xAt kT29 20 (.aload_n 0) 21 := ⟨1, rfl, Or.inr rfl, rfl⟩
set_option maxRecDepth 100000 in
theorem lk29_21 : xAt kT29 21 (.iload_n 2) 22 := ⟨1, rfl, Or.inr rfl, rfl⟩
set_option maxRecDepth 100000 in
theorem lk29_22 : xAt kT29 22 (.putfield 115) 25 := ⟨3, rfl, Or.inr rfl, rfl⟩
set_option maxRecDepth 100000 in
theorem lk29_25 : xAt kT29 25 (.return_) 26 := ⟨1, rfl, Or.inr rfl, rfl⟩
set_option maxRecDepth 100000 in
theorem lk28_0 : xAt kT28 0 (.aload_n 0) 1 := ⟨1, rfl, Or.inr rfl, rfl⟩
set_option maxRecDepth 100000 in
theorem lk28_1 : xAt kT28 1 (.dup) 2 := ⟨1, rfl, Or.inr rfl, rfl⟩
set_option maxRecDepth 100000 in
theorem lk28_2 : xAt kT28 2 (.getfield 37) 5 := ⟨3, rfl, Or.inr rfl, rfl⟩
set_option maxRecDepth 100000 in
theorem lk28_5 : xAt kT28 5 (.iconst 1) 6 := ⟨1, rfl, Or.inr rfl, rfl⟩
set_option maxRecDepth 100000 in
theorem lk28_6 : xAt kT28 6 (.iadd) 7 := ⟨1, rfl, Or.inr rfl, rfl⟩
set_option maxRecDepth 100000 in
theorem lk28_7 : xAt kT28 7 (.putfield 37) 10 := ⟨3, rfl, Or.inr rfl, rfl⟩
set_option maxRecDepth 100000 in
theorem lk28_10 : xAt kT28 10 (.aload_n 0) 11 := ⟨1, rfl, Or.inr rfl, rfl⟩
set_option maxRecDepth 100000 in
theorem lk28_11 : xAt kT28 11 (.getfield 37) 14 := ⟨3, rfl, Or.inr rfl, rfl⟩
set_option maxRecDepth 100000 in
theorem lk28_14 : xAt kT28 14 (.bipush 40) 16 := ⟨2, rfl, Or.inr rfl, rfl⟩
set_option maxRecDepth 100000 in
theorem lk28_16 : xAt kT28 16 (.if_icmp .le 8) 19 := ⟨3, rfl, Or.inr rfl, rfl⟩
set_option maxRecDepth 100000 in
theorem lk28_19 : xAt kT28 19 (.aload_n 0) 20 := ⟨1, rfl, Or.inr rfl, rfl⟩
set_option maxRecDepth 100000 in
theorem lk28_20 : xAt kT28 20 (.invokevirtual 62) 23 := ⟨3, rfl, Or.inr rfl, rfl⟩
set_option maxRecDepth 100000 in
theorem lk28_23 : xAt kT28 23 (.return_) 24 := ⟨1, rfl, Or.inr rfl, rfl⟩
set_option maxRecDepth 100000 in
theorem lk28_24 : xAt kT28 24 (.aload_n 0) 25 := ⟨1, rfl, Or.inr rfl, rfl⟩
set_option maxRecDepth 100000 in
theorem lk28_25 : xAt kT28 25 (.getfield 25) 28 := ⟨3, rfl, Or.inr rfl, rfl⟩
set_option maxRecDepth 100000 in
theorem lk28_28 : xAt kT28 28 (.invokevirtual 65) 31 := ⟨3, rfl, Or.inr rfl, rfl⟩
set_option maxRecDepth 100000 in
theorem lk28_31 : xAt kT28 31 (.astore_n 1) 32 := ⟨1, rfl, Or.inr rfl, rfl⟩
set_option maxRecDepth 100000 in
theorem lk28_32 : xAt kT28 32 (.aload_n 1) 33 := ⟨1, rfl, Or.inr rfl, rfl⟩
set_option maxRecDepth 100000 in
theorem lk28_33 : xAt kT28 33 (.aload_n 0) 34 := ⟨1, rfl, Or.inr rfl, rfl⟩
set_option maxRecDepth 100000 in
theorem lk28_34 : xAt kT28 34 (.getfield 22) 37 := ⟨3, rfl, Or.inr rfl, rfl⟩
set_option maxRecDepth 100000 in
theorem lk28_37 : xAt kT28 37 (.putfield 71) 40 := ⟨3, rfl, Or.inr rfl, rfl⟩
set_option maxRecDepth 100000 in
theorem lk28_40 : xAt kT28 40 (.aload_n 1) 41 := ⟨1, rfl, Or.inr rfl, rfl⟩
set_option maxRecDepth 100000 in
theorem lk28_41 : xAt kT28 41 (.aload_n 0) 42 := ⟨1, rfl, Or.inr rfl, rfl⟩
set_option maxRecDepth 100000 in
theorem lk28_42 : xAt kT28 42 (.getfield 76) 45 := ⟨3, rfl, Or.inr rfl, rfl⟩
set_option maxRecDepth 100000 in
theorem lk28_45 : xAt kT28 45 (.putfield 79) 48 := ⟨3, rfl, Or.inr rfl, rfl⟩
set_option maxRecDepth 100000 in
theorem lk28_48 : xAt kT28 48 (.aload_n 1) 49 := ⟨1, rfl, Or.inr rfl, rfl⟩
set_option maxRecDepth 100000 in
theorem lk28_49 : xAt kT28 49 (.bipush 10) 51 := ⟨2, rfl, Or.inr rfl, rfl⟩
set_option maxRecDepth 100000 in
theorem lk28_51 : xAt kT28 51 (.putfield 82) 54 := ⟨3, rfl, Or.inr rfl, rfl⟩
set_option maxRecDepth 100000 in
theorem lk28_54 : xAt kT28 54 (.aload_n 1) 55 := ⟨1, rfl, Or.inr rfl, rfl⟩
set_option maxRecDepth 100000 in
theorem lk28_55 : xAt kT28 55 (.aload_n 0) 56 := ⟨1, rfl, Or.inr rfl, rfl⟩
set_option maxRecDepth 100000 in
theorem lk28_56 : xAt kT28 56 (.getfield 50) 59 := ⟨3, rfl, Or.inr rfl, rfl⟩
set_option maxRecDepth 100000 in
theorem lk28_59 : xAt kT28 59 (.putfield 85) 62 := ⟨3, rfl, Or.inr rfl, rfl⟩
set_option maxRecDepth 100000 in
theorem lk28_62 : xAt kT28 62 (.aload_n 1) 63 := ⟨1, rfl, Or.inr rfl, rfl⟩
set_option maxRecDepth 100000 in
theorem lk28_63 : xAt kT28 63 (.aload_n 0) 64 := ⟨1, rfl, Or.inr rfl, rfl⟩
set_option maxRecDepth 100000 in
theorem lk28_64 : xAt kT28 64 (.getfield 44) 67 := ⟨3, rfl, Or.inr rfl, rfl⟩
set_option maxRecDepth 100000 in
theorem lk28_67 : xAt kT28 67 (.ifCond .eq 7) 70 := ⟨3, rfl, Or.inr rfl, rfl⟩
set_option maxRecDepth 100000 in
theorem lk28_70 : xAt kT28 70 (.iconst 0) 71 := ⟨1, rfl, Or.inr rfl, rfl⟩
set_option maxRecDepth 100000 in
theorem lk28_71 : xAt kT28 71 (.goto 15) 74 := ⟨3, rfl, Or.inr rfl, rfl⟩
set_option maxRecDepth 100000 in
theorem lk28_74 : xAt kT28 74 (.aload_n 0) 75 := ⟨1, rfl, Or.inr rfl, rfl⟩
set_option maxRecDepth 100000 in
theorem lk28_75 : xAt kT28 75 (.invokevirtual 40) 78 := ⟨3, rfl, Or.inr rfl, rfl⟩
set_option maxRecDepth 100000 in
theorem lk28_78 : xAt kT28 78 (.ifCond .eq 7) 81 := ⟨3, rfl, Or.inr rfl, rfl⟩
set_option maxRecDepth 100000 in
theorem lk28_81 : xAt kT28 81 (.iconst 1) 82 := ⟨1, rfl, Or.inr rfl, rfl⟩
set_option maxRecDepth 100000 in
theorem lk28_82 : xAt kT28 82 (.goto 4) 85 := ⟨3, rfl, Or.inr rfl, rfl⟩
set_option maxRecDepth 100000 in
theorem lk28_85 : xAt kT28 85 (.iconst 2) 86 := ⟨1, rfl, Or.inr rfl, rfl⟩
set_option maxRecDepth 100000 in
theorem lk28_86 : xAt kT28 86 (.putfield 88) 89 := ⟨3, rfl, Or.inr rfl, rfl⟩
set_option maxRecDepth 100000 in
theorem lk28_89 : xAt kT28 89 (.aload_n 1) 90 := ⟨1, rfl, Or.inr rfl, rfl⟩
set_option maxRecDepth 100000 in
theorem lk28_90 : xAt kT28 90 (.aload_n 0) 91 := ⟨1, rfl, Or.inr rfl, rfl⟩
set_option maxRecDepth 100000 in
theorem lk28_91 : xAt kT28 91 (.getfield 44) 94 := ⟨3, rfl, Or.inr rfl, rfl⟩
set_option maxRecDepth 100000 in
theorem lk28_94 : xAt kT28 94 (.ifCond .eq 7) 97 := ⟨3, rfl, Or.inr rfl, rfl⟩
set_option maxRecDepth 100000 in
theorem lk28_97 : xAt kT28 97 (.iconst 0) 98 := ⟨1, rfl, Or.inr rfl, rfl⟩
set_option maxRecDepth 100000 in
theorem lk28_98 : xAt kT28 98 (.goto 7) 101 := ⟨3, rfl, Or.inr rfl, rfl⟩
set_option maxRecDepth 100000 in
theorem lk28_101 : xAt kT28 101 (.aload_n 0) 102 := ⟨1, rfl, Or.inr rfl, rfl⟩
set_option maxRecDepth 100000 in
theorem lk28_102 : xAt kT28 102 (.getfield 9) 105 := ⟨3, rfl, Or.inr rfl, rfl⟩
set_option maxRecDepth 100000 in
theorem lk28_105 : xAt kT28 105 (.putfield 91) 108 := ⟨3, rfl, Or.inr rfl, rfl⟩
set_option maxRecDepth 100000 in
theorem lk28_108 : xAt kT28 108 (.aload_n 1) 109 := ⟨1, rfl, Or.inr rfl, rfl⟩
set_option maxRecDepth 100000 in
theorem lk28_109 : xAt kT28 109 (.aload_n 0) 110 := ⟨1, rfl, Or.inr rfl, rfl⟩
set_option maxRecDepth 100000 in
theorem lk28_110 : xAt kT28 110 (.getfield 44) 113 := ⟨3, rfl, Or.inr rfl, rfl⟩
set_option maxRecDepth 100000 in
theorem lk28_113 : xAt kT28 113 (.ifCond .eq 7) 116 := ⟨3, rfl, Or.inr rfl, rfl⟩
set_option maxRecDepth 100000 in
theorem lk28_116 : xAt kT28 116 (.iconst 0) 117 := ⟨1, rfl, Or.inr rfl, rfl⟩
set_option maxRecDepth 100000 in
theorem lk28_117 : xAt kT28 117 (.goto 7) 120 := ⟨3, rfl, Or.inr rfl, rfl⟩
set_option maxRecDepth 100000 in
theorem lk28_120 : xAt kT28 120 (.aload_n 0) 121 := ⟨1, rfl, Or.inr rfl, rfl⟩
set_option maxRecDepth 100000 in
theorem lk28_121 : xAt kT28 121 (.getfield 47) 124 := ⟨3, rfl, Or.inr rfl, rfl⟩
set_option maxRecDepth 100000 in
theorem lk28_124 : xAt kT28 124 (.putfield 92) 127 := ⟨3, rfl, Or.inr rfl, rfl⟩
set_option maxRecDepth 100000 in
theorem lk28_127 : xAt kT28 127 (.aload_n 1) 128 := ⟨1, rfl, Or.inr rfl, rfl⟩
set_option maxRecDepth 100000 in
theorem lk28_128 : xAt kT28 128 (.aload_n 0) 129 := ⟨1, rfl, Or.inr rfl, rfl⟩
set_option maxRecDepth 100000 in
theorem lk28_129 : xAt kT28 129 (.getfield 44) 132 := ⟨3, rfl, Or.inr rfl, rfl⟩
set_option maxRecDepth 100000 in
theorem lk28_132 : xAt kT28 132 (.ifCond .eq 7) 135 := ⟨3, rfl, Or.inr rfl, rfl⟩
set_option maxRecDepth 100000 in
theorem lk28_135 : xAt kT28 135 (.iconst (-1)) 136 := ⟨1, rfl, Or.inr rfl, rfl⟩
set_option maxRecDepth 100000 in
theorem lk28_136 : xAt kT28 136 (.goto 7) 139 := ⟨3, rfl, Or.inr rfl, rfl⟩
set_option maxRecDepth 100000 in
theorem lk28_139 : xAt kT28 139 (.aload_n 0) 140 := ⟨1, rfl, Or.inr rfl, rfl⟩
set_option maxRecDepth 100000 in
theorem lk28_140 : xAt kT28 140 (.getfield 15) 143 := ⟨3, rfl, Or.inr rfl, rfl⟩
set_option maxRecDepth 100000 in
theorem lk28_143 : xAt kT28 143 (.putfield 93) 146 := ⟨3, rfl, Or.inr rfl, rfl⟩
set_option maxRecDepth 100000 in
theorem lk28_146 : xAt kT28 146 (.aload_n 1) 147 := ⟨1, rfl, Or.inr rfl, rfl⟩
set_option maxRecDepth 100000 in
theorem lk28_147 : xAt kT28 147 (.aload_n 0) 148 := ⟨1, rfl, Or.inr rfl, rfl⟩
set_option maxRecDepth 100000 in
theorem lk28_148 : xAt kT28 148 (.getfield 44) 151 := ⟨3, rfl, Or.inr rfl, rfl⟩
set_option maxRecDepth 100000 in
theorem lk28_151 : xAt kT28 151 (.ifCond .eq 7) 154 := ⟨3, rfl, Or.inr rfl, rfl⟩
set_option maxRecDepth 100000 in
theorem lk28_154 : xAt kT28 154 (.iconst 2) 155 := ⟨1, rfl, Or.inr rfl, rfl⟩
set_option maxRecDepth 100000 in
theorem lk28_155 : xAt kT28 155 (.goto 19) 158 := ⟨3, rfl, Or.inr rfl, rfl⟩
set_option maxRecDepth 100000 in
theorem lk28_158 : xAt kT28 158 (.bipush 12) 160 := ⟨2, rfl, Or.inr rfl, rfl⟩
set_option maxRecDepth 100000 in
theorem lk28_160 : xAt kT28 160 (.aload_n 0) 161 := ⟨1, rfl, Or.inr rfl, rfl⟩
set_option maxRecDepth 100000 in
theorem lk28_161 : xAt kT28 161 (.getfield 29) 164 := ⟨3, rfl, Or.inr rfl, rfl⟩
set_option maxRecDepth 100000 in
theorem lk28_164 : xAt kT28 164 (.aload_n 0) 165 := ⟨1, rfl, Or.inr rfl, rfl⟩
set_option maxRecDepth 100000 in
theorem lk28_165 : xAt kT28 165 (.getfield 15) 168 := ⟨3, rfl, Or.inr rfl, rfl⟩
set_option maxRecDepth 100000 in
theorem lk28_168 : xAt kT28 168 (.bipush 9) 170 := ⟨2, rfl, Or.inr rfl, rfl⟩
set_option maxRecDepth 100000 in
theorem lk28_170 : xAt kT28 170 (.invokevirtual 58) 173 := ⟨3, rfl, Or.inr rfl, rfl⟩
set_option maxRecDepth 100000 in
theorem lk28_173 : xAt kT28 173 (.iadd) 174 := ⟨1, rfl, Or.inr rfl, rfl⟩
set_option maxRecDepth 100000 in
theorem lk28_174 : xAt kT28 174 (.putfield 94) 177 := ⟨3, rfl, Or.inr rfl, rfl⟩
set_option maxRecDepth 100000 in
theorem lk28_177 : xAt kT28 177 (.aload_n 1) 178 := ⟨1, rfl, Or.inr rfl, rfl⟩
set_option maxRecDepth 100000 in
theorem lk28_178 : xAt kT28 178 (.iconst 0) 179 := ⟨1, rfl, Or.inr rfl, rfl⟩
set_option maxRecDepth 100000 in
theorem lk28_179 : xAt kT28 179 (.putfield 97) 182 := ⟨3, rfl, Or.inr rfl, rfl⟩
set_option maxRecDepth 100000 in
theorem lk28_182 : xAt kT28 182 (.aload_n 0) 183 := ⟨1, rfl, Or.inr rfl, rfl⟩
set_option maxRecDepth 100000 in
theorem lk28_183 : xAt kT28 183 (.getfield 25) 186 := ⟨3, rfl, Or.inr rfl, rfl⟩
set_option maxRecDepth 100000 in
theorem lk28_186 : xAt kT28 186 (.aload_n 1) 187 := ⟨1, rfl, Or.inr rfl, rfl⟩
set_option maxRecDepth 100000 in
theorem lk28_187 : xAt kT28 187 (.invokevirtual 100) 190 := ⟨3, rfl, Or.inr rfl, rfl⟩
set_option maxRecDepth 100000 in
theorem lk28_190 : xAt kT28 190 (.aload_n 0) 191 := ⟨1, rfl, Or.inr rfl, rfl⟩
set_option maxRecDepth 100000 in
theorem lk28_191 : xAt kT28 191 (.bipush 60) 193 := ⟨2, rfl, Or.inr rfl, rfl⟩
set_option maxRecDepth 100000 in
theorem lk28_193 : xAt kT28 193 (.iconst 1) 194 := ⟨1, rfl, Or.inr rfl, rfl⟩
set_option maxRecDepth 100000 in
theorem lk28_194 : xAt kT28 194 (.invokevirtual 104) 197 := ⟨3, rfl, Or.inr rfl, rfl⟩
set_option maxRecDepth 100000 in
theorem lk28_197 : xAt kT28 197 (.return_) 198 := ⟨1, rfl, Or.inr rfl, rfl⟩
set_option maxRecDepth 100000 in
theorem lk21_0 : xAt kT21 0 (.aload_n 0) 1 := ⟨1, rfl, Or.inr rfl, rfl⟩
set_option maxRecDepth 100000 in
theorem lk21_1 : xAt kT21 1 (.iconst 1) 2 := ⟨1, rfl, Or.inr rfl, rfl⟩
set_option maxRecDepth 100000 in
theorem lk21_2 : xAt kT21 2 (.putfield 33) 5 := ⟨3, rfl, Or.inr rfl, rfl⟩
set_option maxRecDepth 100000 in
theorem lk21_5 : xAt kT21 5 (.aload_n 0) 6 := ⟨1, rfl, Or.inr rfl, rfl⟩
set_option maxRecDepth 100000 in
theorem lk21_6 : xAt kT21 6 (.iload_n 1) 7 := ⟨1, rfl, Or.inr rfl, rfl⟩
set_option maxRecDepth 100000 in
theorem lk21_7 : xAt kT21 7 (.putfield 15) 10 := ⟨3, rfl, Or.inr rfl, rfl⟩
set_option maxRecDepth 100000 in
theorem lk21_10 : xAt kT21 10 (.aload_n 0) 11 := ⟨1, rfl, Or.inr rfl, rfl⟩
set_option maxRecDepth 100000 in
theorem lk21_11 : xAt kT21 11 (.iconst 0) 12 := ⟨1, rfl, Or.inr rfl, rfl⟩
set_option maxRecDepth 100000 in
theorem lk21_12 : xAt kT21 12 (.putfield 37) 15 := ⟨3, rfl, Or.inr rfl, rfl⟩
set_option maxRecDepth 100000 in
theorem lk21_15 : xAt kT21 15 (.aload_n 0) 16 := ⟨1, rfl, Or.inr rfl, rfl⟩
set_option maxRecDepth 100000 in
theorem lk21_16 : xAt kT21 16 (.aload_n 0) 17 := ⟨1, rfl, Or.inr rfl, rfl⟩
set_option maxRecDepth 100000 in
theorem lk21_17 : xAt kT21 17 (.invokevirtual 40) 20 := ⟨3, rfl, Or.inr rfl, rfl⟩
set_option maxRecDepth 100000 in
theorem lk21_20 : xAt kT21 20 (.ifCond .eq 15) 23 := ⟨3, rfl, Or.inr rfl, rfl⟩
set_option maxRecDepth 100000 in
theorem lk21_23 : xAt kT21 23 (.aload_n 0) 24 := ⟨1, rfl, Or.inr rfl, rfl⟩
set_option maxRecDepth 100000 in
theorem lk21_24 : xAt kT21 24 (.getfield 9) 27 := ⟨3, rfl, Or.inr rfl, rfl⟩
set_option maxRecDepth 100000 in
theorem lk21_27 : xAt kT21 27 (.iconst (-1)) 28 := ⟨1, rfl, Or.inr rfl, rfl⟩
set_option maxRecDepth 100000 in
theorem lk21_28 : xAt kT21 28 (.if_icmp .ne 7) 31 := ⟨3, rfl, Or.inr rfl, rfl⟩
set_option maxRecDepth 100000 in
theorem lk21_31 : xAt kT21 31 (.iconst 1) 32 := ⟨1, rfl, Or.inr rfl, rfl⟩
set_option maxRecDepth 100000 in
theorem lk21_32 : xAt kT21 32 (.goto 4) 35 := ⟨3, rfl, Or.inr rfl, rfl⟩
set_option maxRecDepth 100000 in
theorem lk21_35 : xAt kT21 35 (.iconst 0) 36 := ⟨1, rfl, Or.inr rfl, rfl⟩
set_option maxRecDepth 100000 in
theorem lk21_36 : xAt kT21 36 (.putfield 44) 39 := ⟨3, rfl, Or.inr rfl, rfl⟩
set_option maxRecDepth 100000 in
theorem lk21_39 : xAt kT21 39 (.aload_n 0) 40 := ⟨1, rfl, Or.inr rfl, rfl⟩
set_option maxRecDepth 100000 in
theorem lk21_40 : xAt kT21 40 (.invokevirtual 40) 43 := ⟨3, rfl, Or.inr rfl, rfl⟩
set_option maxRecDepth 100000 in
theorem lk21_43 : xAt kT21 43 (.ifCond .eq 20) 46 := ⟨3, rfl, Or.inr rfl, rfl⟩
set_option maxRecDepth 100000 in
theorem lk21_46 : xAt kT21 46 (.aload_n 0) 47 := ⟨1, rfl, Or.inr rfl, rfl⟩
set_option maxRecDepth 100000 in
theorem lk21_47 : xAt kT21 47 (.getfield 44) 50 := ⟨3, rfl, Or.inr rfl, rfl⟩
set_option maxRecDepth 100000 in
theorem lk21_50 : xAt kT21 50 (.ifCond .ne 13) 53 := ⟨3, rfl, Or.inr rfl, rfl⟩
set_option maxRecDepth 100000 in
theorem lk21_53 : xAt kT21 53 (.aload_n 0) 54 := ⟨1, rfl, Or.inr rfl, rfl⟩
set_option maxRecDepth 100000 in
theorem lk21_54 : xAt kT21 54 (.dup) 55 := ⟨1, rfl, Or.inr rfl, rfl⟩
set_option maxRecDepth 100000 in
theorem lk21_55 : xAt kT21 55 (.getfield 47) 58 := ⟨3, rfl, Or.inr rfl, rfl⟩
set_option maxRecDepth 100000 in
theorem lk21_58 : xAt kT21 58 (.iconst 1) 59 := ⟨1, rfl, Or.inr rfl, rfl⟩
set_option maxRecDepth 100000 in
theorem lk21_59 : xAt kT21 59 (.iadd) 60 := ⟨1, rfl, Or.inr rfl, rfl⟩
set_option maxRecDepth 100000 in
theorem lk21_60 : xAt kT21 60 (.putfield 47) 63 := ⟨3, rfl, Or.inr rfl, rfl⟩
set_option maxRecDepth 100000 in
theorem lk21_63 : xAt kT21 63 (.aload_n 0) 64 := ⟨1, rfl, Or.inr rfl, rfl⟩
set_option maxRecDepth 100000 in
theorem lk21_64 : xAt kT21 64 (.dup) 65 := ⟨1, rfl, Or.inr rfl, rfl⟩
set_option maxRecDepth 100000 in
theorem lk21_65 : xAt kT21 65 (.getfield 50) 68 := ⟨3, rfl, Or.inr rfl, rfl⟩
set_option maxRecDepth 100000 in
theorem lk21_68 : xAt kT21 68 (.iconst 1) 69 := ⟨1, rfl, Or.inr rfl, rfl⟩
set_option maxRecDepth 100000 in
theorem lk21_69 : xAt kT21 69 (.iadd) 70 := ⟨1, rfl, Or.inr rfl, rfl⟩
set_option maxRecDepth 100000 in
theorem lk21_70 : xAt kT21 70 (.putfield 50) 73 := ⟨3, rfl, Or.inr rfl, rfl⟩
set_option maxRecDepth 100000 in
theorem lk21_73 : xAt kT21 73 (.aload_n 0) 74 := ⟨1, rfl, Or.inr rfl, rfl⟩
set_option maxRecDepth 100000 in
theorem lk21_74 : xAt kT21 74 (.invokevirtual 53) 77 := ⟨3, rfl, Or.inr rfl, rfl⟩
set_option maxRecDepth 100000 in
theorem lk21_77 : xAt kT21 77 (.return_) 78 := ⟨1, rfl, Or.inr rfl, rfl⟩
set_option maxRecDepth 100000 in
theorem lk30_0 : xAt kT30 0 (.aload_n 0) 1 := ⟨1, rfl, Or.inr rfl, rfl⟩
set_option maxRecDepth 100000 in
theorem lk30_1 : xAt kT30 1 (.aload_n 0) 2 := ⟨1, rfl, Or.inr rfl, rfl⟩
set_option maxRecDepth 100000 in
theorem lk30_2 : xAt kT30 2 (.getfield 76) 5 := ⟨3, rfl, Or.inr rfl, rfl⟩
set_option maxRecDepth 100000 in
theorem lk30_5 : xAt kT30 5 (.iconst 1) 6 := ⟨1, rfl, Or.inr rfl, rfl⟩
set_option maxRecDepth 100000 in
theorem lk30_6 : xAt kT30 6 (.iadd) 7 := ⟨1, rfl, Or.inr rfl, rfl⟩
set_option maxRecDepth 100000 in
theorem lk30_7 : xAt kT30 7 (.bipush 7) 9 := ⟨2, rfl, Or.inr rfl, rfl⟩
set_option maxRecDepth 100000 in
theorem lk30_9 : xAt kT30 9 (.if_icmp .ge 12) 12 := ⟨3, rfl, Or.inr rfl, rfl⟩
set_option maxRecDepth 100000 in
theorem lk30_12 : xAt kT30 12 (.aload_n 0) 13 := ⟨1, rfl, Or.inr rfl, rfl⟩
set_option maxRecDepth 100000 in
theorem lk30_13 : xAt kT30 13 (.getfield 76) 16 := ⟨3, rfl, Or.inr rfl, rfl⟩
set_option maxRecDepth 100000 in
theorem lk30_16 : xAt kT30 16 (.iconst 1) 17 := ⟨1, rfl, Or.inr rfl, rfl⟩
set_option maxRecDepth 100000 in
theorem lk30_17 : xAt kT30 17 (.iadd) 18 := ⟨1, rfl, Or.inr rfl, rfl⟩
set_option maxRecDepth 100000 in
theorem lk30_18 : xAt kT30 18 (.goto 4) 21 := ⟨3, rfl, Or.inr rfl, rfl⟩
set_option maxRecDepth 100000 in
theorem lk30_21 : xAt kT30 21 (.iconst 0) 22 := ⟨1, rfl, Or.inr rfl, rfl⟩
set_option maxRecDepth 100000 in
theorem lk30_22 : xAt kT30 22 (.putfield 76) 25 := ⟨3, rfl, Or.inr rfl, rfl⟩
set_option maxRecDepth 100000 in
theorem lk30_25 : xAt kT30 25 (.return_) 26 := ⟨1, rfl, Or.inr rfl, rfl⟩
set_option maxRecDepth 100000 in
theorem lk25_0 : xAt kT25 0 (.iload_n 1) 1 := ⟨1, rfl, Or.inr rfl, rfl⟩
set_option maxRecDepth 100000 in
theorem lk25_1 : xAt kT25 1 (.ifCond .lt 21) 4 := ⟨3, rfl, Or.inr rfl, rfl⟩
set_option maxRecDepth 100000 in
theorem lk25_4 : xAt kT25 4 (.iload_n 1) 5 := ⟨1, rfl, Or.inr rfl, rfl⟩
set_option maxRecDepth 100000 in
theorem lk25_5 : xAt kT25 5 (.bipush 7) 7 := ⟨2, rfl, Or.inr rfl, rfl⟩
set_option maxRecDepth 100000 in
theorem lk25_7 : xAt kT25 7 (.if_icmp .ge 15) 10 := ⟨3, rfl, Or.inr rfl, rfl⟩
set_option maxRecDepth 100000 in
theorem lk25_10 : xAt kT25 10 (.aload_n 0) 11 := ⟨1, rfl, Or.inr rfl, rfl⟩
set_option maxRecDepth 100000 in
theorem lk25_11 : xAt kT25 11 (.iload_n 1) 12 := ⟨1, rfl, Or.inr rfl, rfl⟩
set_option maxRecDepth 100000 in
theorem lk25_12 : xAt kT25 12 (.putfield 76) 15 := ⟨3, rfl, Or.inr rfl, rfl⟩
set_option maxRecDepth 100000 in
theorem lk25_15 : xAt kT25 15 (.aload_n 0) 16 := ⟨1, rfl, Or.inr rfl, rfl⟩
set_option maxRecDepth 100000 in
theorem lk25_16 : xAt kT25 16 (.invokevirtual 53) 19 := ⟨3, rfl, Or.inr rfl, rfl⟩
set_option maxRecDepth 100000 in
theorem lk25_19 : xAt kT25 19 (.goto 13) 22 := ⟨3, rfl, Or.inr rfl, rfl⟩
set_option maxRecDepth 100000 in
theorem lk25_22 : xAt kT25 22 (.aload_n 0) 23 := ⟨1, rfl, Or.inr rfl, rfl⟩
set_option maxRecDepth 100000 in
theorem lk25_23 : xAt kT25 23 (.invokevirtual 118) 26 := ⟨3, rfl, Or.inr rfl, rfl⟩
set_option maxRecDepth 100000 in
theorem lk25_26 : xAt kT25 26 (.aload_n 0) 27 := ⟨1, rfl, Or.inr rfl, rfl⟩
set_option maxRecDepth 100000 in
theorem lk25_27 : xAt kT25 27 (.iconst 5) 28 := ⟨1, rfl, Or.inr rfl, rfl⟩
set_option maxRecDepth 100000 in
theorem lk25_28 : xAt kT25 28 (.iconst 0) 29 := ⟨1, rfl, Or.inr rfl, rfl⟩
set_option maxRecDepth 100000 in
theorem lk25_29 : xAt kT25 29 (.invokevirtual 104) 32 := ⟨3, rfl, Or.inr rfl, rfl⟩
set_option maxRecDepth 100000 in
theorem lk25_32 : xAt kT25 32 (.return_) 33 := ⟨1, rfl, Or.inr rfl, rfl⟩
set_option maxRecDepth 100000 in
theorem lk24_0 : xAt kT24 0 (.aload_n 0) 1 := ⟨1, rfl, Or.inr rfl, rfl⟩
set_option maxRecDepth 100000 in
theorem lk24_1 : xAt kT24 1 (.getfield 44) 4 := ⟨3, rfl, Or.inr rfl, rfl⟩
set_option maxRecDepth 100000 in
theorem lk24_4 : xAt kT24 4 (.ifCond .eq 36) 7 := ⟨3, rfl, Or.inr rfl, rfl⟩
set_option maxRecDepth 100000 in
theorem lk24_7 : xAt kT24 7 (.aload_n 0) 8 := ⟨1, rfl, Or.inr rfl, rfl⟩
set_option maxRecDepth 100000 in
theorem lk24_8 : xAt kT24 8 (.iconst 0) 9 := ⟨1, rfl, Or.inr rfl, rfl⟩
set_option maxRecDepth 100000 in
theorem lk24_9 : xAt kT24 9 (.putfield 44) 12 := ⟨3, rfl, Or.inr rfl, rfl⟩
set_option maxRecDepth 100000 in
theorem lk24_12 : xAt kT24 12 (.aload_n 0) 13 := ⟨1, rfl, Or.inr rfl, rfl⟩
set_option maxRecDepth 100000 in
theorem lk24_13 : xAt kT24 13 (.aload_n 1) 14 := ⟨1, rfl, Or.inr rfl, rfl⟩
set_option maxRecDepth 100000 in
theorem lk24_14 : xAt kT24 14 (.getfield 124) 17 := ⟨3, rfl, Or.inr rfl, rfl⟩
set_option maxRecDepth 100000 in
theorem lk24_17 : xAt kT24 17 (.putfield 9) 20 := ⟨3, rfl, Or.inr rfl, rfl⟩
set_option maxRecDepth 100000 in
theorem lk24_20 : xAt kT24 20 (.aload_n 0) 21 := ⟨1, rfl, Or.inr rfl, rfl⟩
set_option maxRecDepth 100000 in
theorem lk24_21 : xAt kT24 21 (.iconst 1) 22 := ⟨1, rfl, Or.inr rfl, rfl⟩
set_option maxRecDepth 100000 in
theorem lk24_22 : xAt kT24 22 (.putfield 47) 25 := ⟨3, rfl, Or.inr rfl, rfl⟩
set_option maxRecDepth 100000 in
theorem lk24_25 : xAt kT24 25 (.aload_n 0) 26 := ⟨1, rfl, Or.inr rfl, rfl⟩
set_option maxRecDepth 100000 in
theorem lk24_26 : xAt kT24 26 (.dup) 27 := ⟨1, rfl, Or.inr rfl, rfl⟩
set_option maxRecDepth 100000 in
theorem lk24_27 : xAt kT24 27 (.getfield 50) 30 := ⟨3, rfl, Or.inr rfl, rfl⟩
set_option maxRecDepth 100000 in
theorem lk24_30 : xAt kT24 30 (.iconst 1) 31 := ⟨1, rfl, Or.inr rfl, rfl⟩
set_option maxRecDepth 100000 in
theorem lk24_31 : xAt kT24 31 (.iadd) 32 := ⟨1, rfl, Or.inr rfl, rfl⟩
set_option maxRecDepth 100000 in
theorem lk24_32 : xAt kT24 32 (.putfield 50) 35 := ⟨3, rfl, Or.inr rfl, rfl⟩
set_option maxRecDepth 100000 in
theorem lk24_35 : xAt kT24 35 (.aload_n 0) 36 := ⟨1, rfl, Or.inr rfl, rfl⟩
set_option maxRecDepth 100000 in
theorem lk24_36 : xAt kT24 36 (.invokevirtual 53) 39 := ⟨3, rfl, Or.inr rfl, rfl⟩
set_option maxRecDepth 100000 in
theorem lk24_39 : xAt kT24 39 (.return_) 40 := ⟨1, rfl, Or.inr rfl, rfl⟩
set_option maxRecDepth 100000 in
theorem lk24_40 : xAt kT24 40 (.aload_n 0) 41 := ⟨1, rfl, Or.inr rfl, rfl⟩
set_option maxRecDepth 100000 in
theorem lk24_41 : xAt kT24 41 (.aload_n 1) 42 := ⟨1, rfl, Or.inr rfl, rfl⟩
set_option maxRecDepth 100000 in
theorem lk24_42 : xAt kT24 42 (.getfield 97) 45 := ⟨3, rfl, Or.inr rfl, rfl⟩
set_option maxRecDepth 100000 in
theorem lk24_45 : xAt kT24 45 (.aload_n 0) 46 := ⟨1, rfl, Or.inr rfl, rfl⟩
set_option maxRecDepth 100000 in
theorem lk24_46 : xAt kT24 46 (.getfield 18) 49 := ⟨3, rfl, Or.inr rfl, rfl⟩
set_option maxRecDepth 100000 in
theorem lk24_49 : xAt kT24 49 (.arraylength) 50 := ⟨1, rfl, Or.inr rfl, rfl⟩
set_option maxRecDepth 100000 in
theorem lk24_50 : xAt kT24 50 (.invokestatic 131) 53 := ⟨3, rfl, Or.inr rfl, rfl⟩
set_option maxRecDepth 100000 in
theorem lk24_53 : xAt kT24 53 (.putfield 136) 56 := ⟨3, rfl, Or.inr rfl, rfl⟩
set_option maxRecDepth 100000 in
theorem lk24_56 : xAt kT24 56 (.aload_n 1) 57 := ⟨1, rfl, Or.inr rfl, rfl⟩
set_option maxRecDepth 100000 in
theorem lk24_57 : xAt kT24 57 (.getfield 139) 60 := ⟨3, rfl, Or.inr rfl, rfl⟩
set_option maxRecDepth 100000 in
theorem lk24_60 : xAt kT24 60 (.iconst 0) 61 := ⟨1, rfl, Or.inr rfl, rfl⟩
set_option maxRecDepth 100000 in
theorem lk24_61 : xAt kT24 61 (.aload_n 0) 62 := ⟨1, rfl, Or.inr rfl, rfl⟩
set_option maxRecDepth 100000 in
theorem lk24_62 : xAt kT24 62 (.getfield 18) 65 := ⟨3, rfl, Or.inr rfl, rfl⟩
set_option maxRecDepth 100000 in
theorem lk24_65 : xAt kT24 65 (.iconst 0) 66 := ⟨1, rfl, Or.inr rfl, rfl⟩
set_option maxRecDepth 100000 in
theorem lk24_66 : xAt kT24 66 (.aload_n 0) 67 := ⟨1, rfl, Or.inr rfl, rfl⟩
set_option maxRecDepth 100000 in
theorem lk24_67 : xAt kT24 67 (.getfield 136) 70 := ⟨3, rfl, Or.inr rfl, rfl⟩
set_option maxRecDepth 100000 in
theorem lk24_70 : xAt kT24 70 (.invokestatic 142) 73 := ⟨3, rfl, Or.inr rfl, rfl⟩
set_option maxRecDepth 100000 in
theorem lk24_73 : xAt kT24 73 (.aload_n 0) 74 := ⟨1, rfl, Or.inr rfl, rfl⟩
set_option maxRecDepth 100000 in
theorem lk24_74 : xAt kT24 74 (.iconst 1) 75 := ⟨1, rfl, Or.inr rfl, rfl⟩
set_option maxRecDepth 100000 in
theorem lk24_75 : xAt kT24 75 (.aload_n 1) 76 := ⟨1, rfl, Or.inr rfl, rfl⟩
set_option maxRecDepth 100000 in
theorem lk24_76 : xAt kT24 76 (.getfield 124) 79 := ⟨3, rfl, Or.inr rfl, rfl⟩
set_option maxRecDepth 100000 in
theorem lk24_79 : xAt kT24 79 (.invokevirtual 148) 82 := ⟨3, rfl, Or.inr rfl, rfl⟩
set_option maxRecDepth 100000 in
theorem lk24_82 : xAt kT24 82 (.return_) 83 := ⟨1, rfl, Or.inr rfl, rfl⟩
set_option maxRecDepth 100000 in
theorem lk23_0 : xAt kT23 0 (.aload_n 0) 1 := ⟨1, rfl, Or.inr rfl, rfl⟩
set_option maxRecDepth 100000 in
theorem lk23_1 : xAt kT23 1 (.getfield 33) 4 := ⟨3, rfl, Or.inr rfl, rfl⟩
set_option maxRecDepth 100000 in
theorem lk23_4 : xAt kT23 4 (.ifCond .eq 14) 7 := ⟨3, rfl, Or.inr rfl, rfl⟩
set_option maxRecDepth 100000 in
theorem lk23_7 : xAt kT23 7 (.aload_n 1) 8 := ⟨1, rfl, Or.inr rfl, rfl⟩
set_option maxRecDepth 100000 in
theorem lk23_8 : xAt kT23 8 (.getfield 85) 11 := ⟨3, rfl, Or.inr rfl, rfl⟩
set_option maxRecDepth 100000 in
theorem lk23_11 : xAt kT23 11 (.aload_n 0) 12 := ⟨1, rfl, Or.inr rfl, rfl⟩
set_option maxRecDepth 100000 in
theorem lk23_12 : xAt kT23 12 (.getfield 50) 15 := ⟨3, rfl, Or.inr rfl, rfl⟩
set_option maxRecDepth 100000 in
theorem lk23_15 : xAt kT23 15 (.if_icmp .eq 4) 18 := ⟨3, rfl, Or.inr rfl, rfl⟩
set_option maxRecDepth 100000 in
theorem lk23_18 : xAt kT23 18 (.return_) 19 := ⟨1, rfl, Or.inr rfl, rfl⟩
set_option maxRecDepth 100000 in
theorem lk23_19 : xAt kT23 19 (.aload_n 1) 20 := ⟨1, rfl, Or.inr rfl, rfl⟩
set_option maxRecDepth 100000 in
theorem lk23_20 : xAt kT23 20 (.getfield 88) 23 := ⟨3, rfl, Or.inr rfl, rfl⟩
set_option maxRecDepth 100000 in
theorem lk23_23 : xAt kT23 23 (.tableswitch 51 0 2 #[25, 33, 44]) 48 := ⟨25, rfl, Or.inl rfl, rfl⟩
set_option maxRecDepth 100000 in
theorem lk23_48 : xAt kT23 48 (.aload_n 0) 49 := ⟨1, rfl, Or.inr rfl, rfl⟩
set_option maxRecDepth 100000 in
theorem lk23_49 : xAt kT23 49 (.aload_n 1) 50 := ⟨1, rfl, Or.inr rfl, rfl⟩
set_option maxRecDepth 100000 in
theorem lk23_50 : xAt kT23 50 (.invokevirtual 121) 53 := ⟨3, rfl, Or.inr rfl, rfl⟩
set_option maxRecDepth 100000 in
theorem lk23_53 : xAt kT23 53 (.goto 28) 56 := ⟨3, rfl, Or.inr rfl, rfl⟩
set_option maxRecDepth 100000 in
theorem lk23_56 : xAt kT23 56 (.aload_n 0) 57 := ⟨1, rfl, Or.inr rfl, rfl⟩
set_option maxRecDepth 100000 in
theorem lk23_57 : xAt kT23 57 (.aload_n 1) 58 := ⟨1, rfl, Or.inr rfl, rfl⟩
set_option maxRecDepth 100000 in
theorem lk23_58 : xAt kT23 58 (.getfield 124) 61 := ⟨3, rfl, Or.inr rfl, rfl⟩
set_option maxRecDepth 100000 in
theorem lk23_61 : xAt kT23 61 (.invokevirtual 127) 64 := ⟨3, rfl, Or.inr rfl, rfl⟩
set_option maxRecDepth 100000 in
theorem lk23_64 : xAt kT23 64 (.goto 17) 67 := ⟨3, rfl, Or.inr rfl, rfl⟩
set_option maxRecDepth 100000 in
theorem lk23_67 : xAt kT23 67 (.aload_n 0) 68 := ⟨1, rfl, Or.inr rfl, rfl⟩
set_option maxRecDepth 100000 in
theorem lk23_68 : xAt kT23 68 (.invokevirtual 62) 71 := ⟨3, rfl, Or.inr rfl, rfl⟩
set_option maxRecDepth 100000 in
theorem lk23_71 : xAt kT23 71 (.goto 10) 74 := ⟨3, rfl, Or.inr rfl, rfl⟩
set_option maxRecDepth 100000 in
theorem lk23_74 : xAt kT23 74 (.aload_n 0) 75 := ⟨1, rfl, Or.inr rfl, rfl⟩
set_option maxRecDepth 100000 in
theorem lk23_75 : xAt kT23 75 (.bipush 20) 77 := ⟨2, rfl, Or.inr rfl, rfl⟩
set_option maxRecDepth 100000 in
theorem lk23_77 : xAt kT23 77 (.iconst 0) 78 := ⟨1, rfl, Or.inr rfl, rfl⟩
set_option maxRecDepth 100000 in
theorem lk23_78 : xAt kT23 78 (.invokevirtual 104) 81 := ⟨3, rfl, Or.inr rfl, rfl⟩
set_option maxRecDepth 100000 in
theorem lk23_81 : xAt kT23 81 (.return_) 82 := ⟨1, rfl, Or.inr rfl, rfl⟩
set_option maxRecDepth 100000 in
theorem lk31_0 : xAt kT31 0 (.aload_n 0) 1 := ⟨1, rfl, Or.inr rfl, rfl⟩
set_option maxRecDepth 100000 in
theorem lk31_1 : xAt kT31 1 (.getfield 115) 4 := ⟨3, rfl, Or.inr rfl, rfl⟩
set_option maxRecDepth 100000 in
theorem lk31_4 : xAt kT31 4 (.ifCond .eq 7) 7 := ⟨3, rfl, Or.inr rfl, rfl⟩
set_option maxRecDepth 100000 in
theorem lk31_7 : xAt kT31 7 (.aload_n 0) 8 := ⟨1, rfl, Or.inr rfl, rfl⟩
set_option maxRecDepth 100000 in
theorem lk31_8 : xAt kT31 8 (.invokevirtual 118) 11 := ⟨3, rfl, Or.inr rfl, rfl⟩
set_option maxRecDepth 100000 in
theorem lk31_11 : xAt kT31 11 (.aload_n 0) 12 := ⟨1, rfl, Or.inr rfl, rfl⟩
set_option maxRecDepth 100000 in
theorem lk31_12 : xAt kT31 12 (.invokevirtual 53) 15 := ⟨3, rfl, Or.inr rfl, rfl⟩
set_option maxRecDepth 100000 in
theorem lk31_15 : xAt kT31 15 (.return_) 16 := ⟨1, rfl, Or.inr rfl, rfl⟩
set_option maxRecDepth 100000 in
theorem lk112_0 : xAt kT112 0 (.aload_n 0) 1 := ⟨1, rfl, Or.inr rfl, rfl⟩
set_option maxRecDepth 100000 in
theorem lk112_1 : xAt kT112 1 (.iconst 0) 2 := ⟨1, rfl, Or.inr rfl, rfl⟩
set_option maxRecDepth 100000 in
theorem lk112_2 : xAt kT112 2 (.putfield 22) 5 := ⟨3, rfl, Or.inr rfl, rfl⟩
set_option maxRecDepth 100000 in
theorem lk112_5 : xAt kT112 5 (.aload_n 0) 6 := ⟨1, rfl, Or.inr rfl, rfl⟩
set_option maxRecDepth 100000 in
theorem lk112_6 : xAt kT112 6 (.iconst 0) 7 := ⟨1, rfl, Or.inr rfl, rfl⟩
set_option maxRecDepth 100000 in
theorem lk112_7 : xAt kT112 7 (.putfield 26) 10 := ⟨3, rfl, Or.inr rfl, rfl⟩
set_option maxRecDepth 100000 in
theorem lk112_10 : xAt kT112 10 (.aload_n 0) 11 := ⟨1, rfl, Or.inr rfl, rfl⟩
set_option maxRecDepth 100000 in
theorem lk112_11 : xAt kT112 11 (.iconst 0) 12 := ⟨1, rfl, Or.inr rfl, rfl⟩
set_option maxRecDepth 100000 in
theorem lk112_12 : xAt kT112 12 (.putfield 39) 15 := ⟨3, rfl, Or.inr rfl, rfl⟩
set_option maxRecDepth 100000 in
theorem lk112_15 : xAt kT112 15 (.return_) 16 := ⟨1, rfl, Or.inr rfl, rfl⟩
set_option maxRecDepth 100000 in
theorem lk45_0 : xAt kT45 0 (.aload_n 0) 1 := ⟨1, rfl, Or.inr rfl, rfl⟩
set_option maxRecDepth 100000 in
theorem lk45_1 : xAt kT45 1 (.getfield 11) 4 := ⟨3, rfl, Or.inr rfl, rfl⟩
set_option maxRecDepth 100000 in
theorem lk45_4 : xAt kT45 4 (.iload_n 1) 5 := ⟨1, rfl, Or.inr rfl, rfl⟩
set_option maxRecDepth 100000 in
theorem lk45_5 : xAt kT45 5 (.aaload) 6 := ⟨1, rfl, Or.inr rfl, rfl⟩
set_option maxRecDepth 100000 in
theorem lk45_6 : xAt kT45 6 (.invokevirtual 99) 9 := ⟨3, rfl, Or.inr rfl, rfl⟩
set_option maxRecDepth 100000 in
theorem lk45_9 : xAt kT45 9 (.aload_n 0) 10 := ⟨1, rfl, Or.inr rfl, rfl⟩
set_option maxRecDepth 100000 in
theorem lk45_10 : xAt kT45 10 (.getfield 20) 13 := ⟨3, rfl, Or.inr rfl, rfl⟩
set_option maxRecDepth 100000 in
theorem lk45_13 : xAt kT45 13 (.iload_n 1) 14 := ⟨1, rfl, Or.inr rfl, rfl⟩
set_option maxRecDepth 100000 in
theorem lk45_14 : xAt kT45 14 (.iconst 0) 15 := ⟨1, rfl, Or.inr rfl, rfl⟩
set_option maxRecDepth 100000 in
theorem lk45_15 : xAt kT45 15 (.iastore) 16 := ⟨1, rfl, Or.inr rfl, rfl⟩
set_option maxRecDepth 100000 in
theorem lk45_16 : xAt kT45 16 (.aload_n 0) 17 := ⟨1, rfl, Or.inr rfl, rfl⟩
set_option maxRecDepth 100000 in
theorem lk45_17 : xAt kT45 17 (.getfield 24) 20 := ⟨3, rfl, Or.inr rfl, rfl⟩
set_option maxRecDepth 100000 in
theorem lk45_20 : xAt kT45 20 (.iload_n 1) 21 := ⟨1, rfl, Or.inr rfl, rfl⟩
set_option maxRecDepth 100000 in
theorem lk45_21 : xAt kT45 21 (.iconst 0) 22 := ⟨1, rfl, Or.inr rfl, rfl⟩
set_option maxRecDepth 100000 in
theorem lk45_22 : xAt kT45 22 (.iastore) 23 := ⟨1, rfl, Or.inr rfl, rfl⟩
set_option maxRecDepth 100000 in
theorem lk45_23 : xAt kT45 23 (.return_) 24 := ⟨1, rfl, Or.inr rfl, rfl⟩
set_option maxRecDepth 100000 in
theorem lk33_0 : xAt kT33 0 (.iconst 0) 1 := ⟨1, rfl, Or.inr rfl, rfl⟩
set_option maxRecDepth 100000 in
theorem lk33_1 : xAt kT33 1 (.istore_n 3) 2 := ⟨1, rfl, Or.inr rfl, rfl⟩
set_option maxRecDepth 100000 in
theorem lk33_2 : xAt kT33 2 (.iconst 0) 3 := ⟨1, rfl, Or.inr rfl, rfl⟩
set_option maxRecDepth 100000 in
theorem lk33_3 : xAt kT33 3 (.istore 4) 5 := ⟨2, rfl, Or.inr rfl, rfl⟩
set_option maxRecDepth 100000 in
theorem lk33_5 : xAt kT33 5 (.iload 4) 7 := ⟨2, rfl, Or.inr rfl, rfl⟩
set_option maxRecDepth 100000 in
theorem lk33_7 : xAt kT33 7 (.aload_n 0) 8 := ⟨1, rfl, Or.inr rfl, rfl⟩
set_option maxRecDepth 100000 in
theorem lk33_8 : xAt kT33 8 (.getfield 72) 11 := ⟨3, rfl, Or.inr rfl, rfl⟩
set_option maxRecDepth 100000 in
theorem lk33_11 : xAt kT33 11 (.if_icmp .ge 98) 14 := ⟨3, rfl, Or.inr rfl, rfl⟩
set_option maxRecDepth 100000 in
theorem lk33_14 : xAt kT33 14 (.aload_n 0) 15 := ⟨1, rfl, Or.inr rfl, rfl⟩
set_option maxRecDepth 100000 in
theorem lk33_15 : xAt kT33 15 (.getfield 11) 18 := ⟨3, rfl, Or.inr rfl, rfl⟩
set_option maxRecDepth 100000 in
theorem lk33_18 : xAt kT33 18 (.aload_n 0) 19 := ⟨1, rfl, Or.inr rfl, rfl⟩
set_option maxRecDepth 100000 in
theorem lk33_19 : xAt kT33 19 (.getfield 27) 22 := ⟨3, rfl, Or.inr rfl, rfl⟩
set_option maxRecDepth 100000 in
theorem lk33_22 : xAt kT33 22 (.iload 4) 24 := ⟨2, rfl, Or.inr rfl, rfl⟩
set_option maxRecDepth 100000 in
theorem lk33_24 : xAt kT33 24 (.iaload) 25 := ⟨1, rfl, Or.inr rfl, rfl⟩
set_option maxRecDepth 100000 in
theorem lk33_25 : xAt kT33 25 (.aaload) 26 := ⟨1, rfl, Or.inr rfl, rfl⟩
set_option maxRecDepth 100000 in
theorem lk33_26 : xAt kT33 26 (.astore 5) 28 := ⟨2, rfl, Or.inr rfl, rfl⟩
set_option maxRecDepth 100000 in
theorem lk33_28 : xAt kT33 28 (.iload_n 2) 29 := ⟨1, rfl, Or.inr rfl, rfl⟩
set_option maxRecDepth 100000 in
theorem lk33_29 : xAt kT33 29 (.iload_n 1) 30 := ⟨1, rfl, Or.inr rfl, rfl⟩
set_option maxRecDepth 100000 in
theorem lk33_30 : xAt kT33 30 (.if_icmp .le 35) 33 := ⟨3, rfl, Or.inr rfl, rfl⟩
set_option maxRecDepth 100000 in
theorem lk33_33 : xAt kT33 33 (.iload 4) 35 := ⟨2, rfl, Or.inr rfl, rfl⟩
set_option maxRecDepth 100000 in
theorem lk33_35 : xAt kT33 35 (.aload_n 0) 36 := ⟨1, rfl, Or.inr rfl, rfl⟩
set_option maxRecDepth 100000 in
theorem lk33_36 : xAt kT33 36 (.getfield 72) 39 := ⟨3, rfl, Or.inr rfl, rfl⟩
set_option maxRecDepth 100000 in
theorem lk33_39 : xAt kT33 39 (.iconst 1) 40 := ⟨1, rfl, Or.inr rfl, rfl⟩
set_option maxRecDepth 100000 in
theorem lk33_40 : xAt kT33 40 (.isub) 41 := ⟨1, rfl, Or.inr rfl, rfl⟩
set_option maxRecDepth 100000 in
theorem lk33_41 : xAt kT33 41 (.if_icmp .eq 20) 44 := ⟨3, rfl, Or.inr rfl, rfl⟩
set_option maxRecDepth 100000 in
theorem lk33_44 : xAt kT33 44 (.aload 5) 46 := ⟨2, rfl, Or.inr rfl, rfl⟩
set_option maxRecDepth 100000 in
theorem lk33_46 : xAt kT33 46 (.getfield 83) 49 := ⟨3, rfl, Or.inr rfl, rfl⟩
set_option maxRecDepth 100000 in
theorem lk33_49 : xAt kT33 49 (.aload 5) 51 := ⟨2, rfl, Or.inr rfl, rfl⟩
set_option maxRecDepth 100000 in
theorem lk33_51 : xAt kT33 51 (.getfield 96) 54 := ⟨3, rfl, Or.inr rfl, rfl⟩
set_option maxRecDepth 100000 in
theorem lk33_54 : xAt kT33 54 (.iadd) 55 := ⟨1, rfl, Or.inr rfl, rfl⟩
set_option maxRecDepth 100000 in
theorem lk33_55 : xAt kT33 55 (.iconst 1) 56 := ⟨1, rfl, Or.inr rfl, rfl⟩
set_option maxRecDepth 100000 in
theorem lk33_56 : xAt kT33 56 (.isub) 57 := ⟨1, rfl, Or.inr rfl, rfl⟩
set_option maxRecDepth 100000 in
theorem lk33_57 : xAt kT33 57 (.iload_n 1) 58 := ⟨1, rfl, Or.inr rfl, rfl⟩
set_option maxRecDepth 100000 in
theorem lk33_58 : xAt kT33 58 (.if_icmp .le 7) 61 := ⟨3, rfl, Or.inr rfl, rfl⟩
set_option maxRecDepth 100000 in
theorem lk33_61 : xAt kT33 61 (.iconst 1) 62 := ⟨1, rfl, Or.inr rfl, rfl⟩
set_option maxRecDepth 100000 in
theorem lk33_62 : xAt kT33 62 (.goto 4) 65 := ⟨3, rfl, Or.inr rfl, rfl⟩
set_option maxRecDepth 100000 in
theorem lk33_65 : xAt kT33 65 (.iconst 0) 66 := ⟨1, rfl, Or.inr rfl, rfl⟩
set_option maxRecDepth 100000 in
theorem lk33_66 : xAt kT33 66 (.istore 6) 68 := ⟨2, rfl, Or.inr rfl, rfl⟩
set_option maxRecDepth 100000 in
theorem lk33_68 : xAt kT33 68 (.iload 6) 70 := ⟨2, rfl, Or.inr rfl, rfl⟩
set_option maxRecDepth 100000 in
theorem lk33_70 : xAt kT33 70 (.ifCond .eq 22) 73 := ⟨3, rfl, Or.inr rfl, rfl⟩
set_option maxRecDepth 100000 in
theorem lk33_73 : xAt kT33 73 (.aload_n 0) 74 := ⟨1, rfl, Or.inr rfl, rfl⟩
set_option maxRecDepth 100000 in
theorem lk33_74 : xAt kT33 74 (.getfield 27) 77 := ⟨3, rfl, Or.inr rfl, rfl⟩
set_option maxRecDepth 100000 in
theorem lk33_77 : xAt kT33 77 (.iload_n 3) 78 := ⟨1, rfl, Or.inr rfl, rfl⟩
set_option maxRecDepth 100000 in
theorem lk33_78 : xAt kT33 78 (.aload_n 0) 79 := ⟨1, rfl, Or.inr rfl, rfl⟩
set_option maxRecDepth 100000 in
theorem lk33_79 : xAt kT33 79 (.getfield 27) 82 := ⟨3, rfl, Or.inr rfl, rfl⟩
set_option maxRecDepth 100000 in
theorem lk33_82 : xAt kT33 82 (.iload 4) 84 := ⟨2, rfl, Or.inr rfl, rfl⟩
set_option maxRecDepth 100000 in
theorem lk33_84 : xAt kT33 84 (.iaload) 85 := ⟨1, rfl, Or.inr rfl, rfl⟩
set_option maxRecDepth 100000 in
theorem lk33_85 : xAt kT33 85 (.iastore) 86 := ⟨1, rfl, Or.inr rfl, rfl⟩
set_option maxRecDepth 100000 in
theorem lk33_86 : xAt kT33 86 (.iinc 3 1) 89 := ⟨3, rfl, Or.inr rfl, rfl⟩
set_option maxRecDepth 100000 in
theorem lk33_89 : xAt kT33 89 (.goto 14) 92 := ⟨3, rfl, Or.inr rfl, rfl⟩
set_option maxRecDepth 100000 in
theorem lk33_92 : xAt kT33 92 (.aload_n 0) 93 := ⟨1, rfl, Or.inr rfl, rfl⟩
set_option maxRecDepth 100000 in
theorem lk33_93 : xAt kT33 93 (.aload_n 0) 94 := ⟨1, rfl, Or.inr rfl, rfl⟩
set_option maxRecDepth 100000 in
theorem lk33_94 : xAt kT33 94 (.getfield 27) 97 := ⟨3, rfl, Or.inr rfl, rfl⟩
set_option maxRecDepth 100000 in
theorem lk33_97 : xAt kT33 97 (.iload 4) 99 := ⟨2, rfl, Or.inr rfl, rfl⟩
set_option maxRecDepth 100000 in
theorem lk33_99 : xAt kT33 99 (.iaload) 100 := ⟨1, rfl, Or.inr rfl, rfl⟩
set_option maxRecDepth 100000 in
theorem lk33_100 : xAt kT33 100 (.invokevirtual 86) 103 := ⟨3, rfl, Or.inr rfl, rfl⟩
set_option maxRecDepth 100000 in
theorem lk33_103 : xAt kT33 103 (.iinc 4 1) 106 := ⟨3, rfl, Or.inr rfl, rfl⟩
set_option maxRecDepth 100000 in
theorem lk33_106 : xAt kT33 106 (.goto (-101)) 109 := ⟨3, rfl, Or.inr rfl, rfl⟩
set_option maxRecDepth 100000 in
theorem lk33_109 : xAt kT33 109 (.aload_n 0) 110 := ⟨1, rfl, Or.inr rfl, rfl⟩
set_option maxRecDepth 100000 in
theorem lk33_110 : xAt kT33 110 (.iload_n 3) 111 := ⟨1, rfl, Or.inr rfl, rfl⟩
set_option maxRecDepth 100000 in
theorem lk33_111 : xAt kT33 111 (.putfield 72) 114 := ⟨3, rfl, Or.inr rfl, rfl⟩
set_option maxRecDepth 100000 in
theorem lk33_114 : xAt kT33 114 (.return_) 115 := ⟨1, rfl, Or.inr rfl, rfl⟩
set_option maxRecDepth 100000 in
theorem lk107_0 : xAt kT107 0 (.iload_n 1) 1 := ⟨1, rfl, Or.inr rfl, rfl⟩
set_option maxRecDepth 100000 in
theorem lk107_1 : xAt kT107 1 (.ifCond .le 22) 4 := ⟨3, rfl, Or.inr rfl, rfl⟩
set_option maxRecDepth 100000 in
theorem lk107_4 : xAt kT107 4 (.iload_n 1) 5 := ⟨1, rfl, Or.inr rfl, rfl⟩
set_option maxRecDepth 100000 in
theorem lk107_5 : xAt kT107 5 (.aload_n 0) 6 := ⟨1, rfl, Or.inr rfl, rfl⟩
set_option maxRecDepth 100000 in
theorem lk107_6 : xAt kT107 6 (.getfield 39) 9 := ⟨3, rfl, Or.inr rfl, rfl⟩
set_option maxRecDepth 100000 in
theorem lk107_9 : xAt kT107 9 (.if_icmp .gt 14) 12 := ⟨3, rfl, Or.inr rfl, rfl⟩
set_option maxRecDepth 100000 in
theorem lk107_12 : xAt kT107 12 (.aload_n 0) 13 := ⟨1, rfl, Or.inr rfl, rfl⟩
set_option maxRecDepth 100000 in
theorem lk107_13 : xAt kT107 13 (.getfield 15) 16 := ⟨3, rfl, Or.inr rfl, rfl⟩
set_option maxRecDepth 100000 in
theorem lk107_16 : xAt kT107 16 (.iload_n 1) 17 := ⟨1, rfl, Or.inr rfl, rfl⟩
set_option maxRecDepth 100000 in
theorem lk107_17 : xAt kT107 17 (.iconst 1) 18 := ⟨1, rfl, Or.inr rfl, rfl⟩
set_option maxRecDepth 100000 in
theorem lk107_18 : xAt kT107 18 (.isub) 19 := ⟨1, rfl, Or.inr rfl, rfl⟩
set_option maxRecDepth 100000 in
theorem lk107_19 : xAt kT107 19 (.iaload) 20 := ⟨1, rfl, Or.inr rfl, rfl⟩
set_option maxRecDepth 100000 in
theorem lk107_20 : xAt kT107 20 (.goto 5) 23 := ⟨3, rfl, Or.inr rfl, rfl⟩
set_option maxRecDepth 100000 in
theorem lk107_23 : xAt kT107 23 (.bipush 24) 25 := ⟨2, rfl, Or.inr rfl, rfl⟩
set_option maxRecDepth 100000 in
theorem lk107_25 : xAt kT107 25 (.ireturn) 26 := ⟨1, rfl, Or.inr rfl, rfl⟩
set_option maxRecDepth 100000 in
theorem lk106_0 : xAt kT106 0 (.aload_n 0) 1 := ⟨1, rfl, Or.inr rfl, rfl⟩
set_option maxRecDepth 100000 in
theorem lk106_1 : xAt kT106 1 (.getfield 26) 4 := ⟨3, rfl, Or.inr rfl, rfl⟩
set_option maxRecDepth 100000 in
theorem lk106_4 : xAt kT106 4 (.iload_n 1) 5 := ⟨1, rfl, Or.inr rfl, rfl⟩
set_option maxRecDepth 100000 in
theorem lk106_5 : xAt kT106 5 (.if_icmp .le 43) 8 := ⟨3, rfl, Or.inr rfl, rfl⟩
set_option maxRecDepth 100000 in
theorem lk106_8 : xAt kT106 8 (.aload_n 0) 9 := ⟨1, rfl, Or.inr rfl, rfl⟩
set_option maxRecDepth 100000 in
theorem lk106_9 : xAt kT106 9 (.iload_n 1) 10 := ⟨1, rfl, Or.inr rfl, rfl⟩
set_option maxRecDepth 100000 in
theorem lk106_10 : xAt kT106 10 (.putfield 26) 13 := ⟨3, rfl, Or.inr rfl, rfl⟩
set_option maxRecDepth 100000 in
theorem lk106_13 : xAt kT106 13 (.aload_n 0) 14 := ⟨1, rfl, Or.inr rfl, rfl⟩
set_option maxRecDepth 100000 in
theorem lk106_14 : xAt kT106 14 (.getfield 39) 17 := ⟨3, rfl, Or.inr rfl, rfl⟩
set_option maxRecDepth 100000 in
theorem lk106_17 : xAt kT106 17 (.ifCond .le 31) 20 := ⟨3, rfl, Or.inr rfl, rfl⟩
set_option maxRecDepth 100000 in
theorem lk106_20 : xAt kT106 20 (.aload_n 0) 21 := ⟨1, rfl, Or.inr rfl, rfl⟩
set_option maxRecDepth 100000 in
theorem lk106_21 : xAt kT106 21 (.getfield 15) 24 := ⟨3, rfl, Or.inr rfl, rfl⟩
set_option maxRecDepth 100000 in
theorem lk106_24 : xAt kT106 24 (.aload_n 0) 25 := ⟨1, rfl, Or.inr rfl, rfl⟩
set_option maxRecDepth 100000 in
theorem lk106_25 : xAt kT106 25 (.getfield 39) 28 := ⟨3, rfl, Or.inr rfl, rfl⟩
set_option maxRecDepth 100000 in
theorem lk106_28 : xAt kT106 28 (.iconst 1) 29 := ⟨1, rfl, Or.inr rfl, rfl⟩
set_option maxRecDepth 100000 in
theorem lk106_29 : xAt kT106 29 (.isub) 30 := ⟨1, rfl, Or.inr rfl, rfl⟩
set_option maxRecDepth 100000 in
theorem lk106_30 : xAt kT106 30 (.iaload) 31 := ⟨1, rfl, Or.inr rfl, rfl⟩
set_option maxRecDepth 100000 in
theorem lk106_31 : xAt kT106 31 (.iload_n 1) 32 := ⟨1, rfl, Or.inr rfl, rfl⟩
set_option maxRecDepth 100000 in
theorem lk106_32 : xAt kT106 32 (.if_icmp .le 16) 35 := ⟨3, rfl, Or.inr rfl, rfl⟩
set_option maxRecDepth 100000 in
theorem lk106_35 : xAt kT106 35 (.aload_n 0) 36 := ⟨1, rfl, Or.inr rfl, rfl⟩
set_option maxRecDepth 100000 in
theorem lk106_36 : xAt kT106 36 (.dup) 37 := ⟨1, rfl, Or.inr rfl, rfl⟩
set_option maxRecDepth 100000 in
theorem lk106_37 : xAt kT106 37 (.getfield 39) 40 := ⟨3, rfl, Or.inr rfl, rfl⟩
set_option maxRecDepth 100000 in
theorem lk106_40 : xAt kT106 40 (.iconst 1) 41 := ⟨1, rfl, Or.inr rfl, rfl⟩
set_option maxRecDepth 100000 in
theorem lk106_41 : xAt kT106 41 (.isub) 42 := ⟨1, rfl, Or.inr rfl, rfl⟩
set_option maxRecDepth 100000 in
theorem lk106_42 : xAt kT106 42 (.putfield 39) 45 := ⟨3, rfl, Or.inr rfl, rfl⟩
set_option maxRecDepth 100000 in
theorem lk106_45 : xAt kT106 45 (.goto (-32)) 48 := ⟨3, rfl, Or.inr rfl, rfl⟩
set_option maxRecDepth 100000 in
theorem lk106_48 : xAt kT106 48 (.return_) 49 := ⟨1, rfl, Or.inr rfl, rfl⟩
set_option maxRecDepth 100000 in
theorem lk35_0 : xAt kT35 0 (.aload_n 0) 1 := ⟨1, rfl, Or.inr rfl, rfl⟩
set_option maxRecDepth 100000 in
theorem lk35_1 : xAt kT35 1 (.getfield 11) 4 := ⟨3, rfl, Or.inr rfl, rfl⟩
set_option maxRecDepth 100000 in
theorem lk35_4 : xAt kT35 4 (.iload_n 1) 5 := ⟨1, rfl, Or.inr rfl, rfl⟩
set_option maxRecDepth 100000 in
theorem lk35_5 : xAt kT35 5 (.aaload) 6 := ⟨1, rfl, Or.inr rfl, rfl⟩
set_option maxRecDepth 100000 in
theorem lk35_6 : xAt kT35 6 (.iload_n 2) 7 := ⟨1, rfl, Or.inr rfl, rfl⟩
set_option maxRecDepth 100000 in
theorem lk35_7 : xAt kT35 7 (.invokevirtual 101) 10 := ⟨3, rfl, Or.inr rfl, rfl⟩
set_option maxRecDepth 100000 in
theorem lk35_10 : xAt kT35 10 (.aload_n 0) 11 := ⟨1, rfl, Or.inr rfl, rfl⟩
set_option maxRecDepth 100000 in
theorem lk35_11 : xAt kT35 11 (.getfield 20) 14 := ⟨3, rfl, Or.inr rfl, rfl⟩
set_option maxRecDepth 100000 in
theorem lk35_14 : xAt kT35 14 (.iload_n 1) 15 := ⟨1, rfl, Or.inr rfl, rfl⟩
set_option maxRecDepth 100000 in
theorem lk35_15 : xAt kT35 15 (.aload_n 0) 16 := ⟨1, rfl, Or.inr rfl, rfl⟩
set_option maxRecDepth 100000 in
theorem lk35_16 : xAt kT35 16 (.getfield 20) 19 := ⟨3, rfl, Or.inr rfl, rfl⟩
set_option maxRecDepth 100000 in
theorem lk35_19 : xAt kT35 19 (.iload_n 1) 20 := ⟨1, rfl, Or.inr rfl, rfl⟩
set_option maxRecDepth 100000 in
theorem lk35_20 : xAt kT35 20 (.iaload) 21 := ⟨1, rfl, Or.inr rfl, rfl⟩
set_option maxRecDepth 100000 in
theorem lk35_21 : xAt kT35 21 (.aload_n 0) 22 := ⟨1, rfl, Or.inr rfl, rfl⟩
set_option maxRecDepth 100000 in
theorem lk35_22 : xAt kT35 22 (.getfield 11) 25 := ⟨3, rfl, Or.inr rfl, rfl⟩
set_option maxRecDepth 100000 in
theorem lk35_25 : xAt kT35 25 (.iload_n 1) 26 := ⟨1, rfl, Or.inr rfl, rfl⟩
set_option maxRecDepth 100000 in
theorem lk35_26 : xAt kT35 26 (.aaload) 27 := ⟨1, rfl, Or.inr rfl, rfl⟩
set_option maxRecDepth 100000 in
theorem lk35_27 : xAt kT35 27 (.getfield 38) 30 := ⟨3, rfl, Or.inr rfl, rfl⟩
set_option maxRecDepth 100000 in
theorem lk35_30 : xAt kT35 30 (.invokestatic 103) 33 := ⟨3, rfl, Or.inr rfl, rfl⟩
set_option maxRecDepth 100000 in
theorem lk35_33 : xAt kT35 33 (.iastore) 34 := ⟨1, rfl, Or.inr rfl, rfl⟩
set_option maxRecDepth 100000 in
theorem lk35_34 : xAt kT35 34 (.aload_n 0) 35 := ⟨1, rfl, Or.inr rfl, rfl⟩
set_option maxRecDepth 100000 in
theorem lk35_35 : xAt kT35 35 (.getfield 24) 38 := ⟨3, rfl, Or.inr rfl, rfl⟩
set_option maxRecDepth 100000 in
theorem lk35_38 : xAt kT35 38 (.iload_n 1) 39 := ⟨1, rfl, Or.inr rfl, rfl⟩
set_option maxRecDepth 100000 in
theorem lk35_39 : xAt kT35 39 (.aload_n 0) 40 := ⟨1, rfl, Or.inr rfl, rfl⟩
set_option maxRecDepth 100000 in
theorem lk35_40 : xAt kT35 40 (.getfield 24) 43 := ⟨3, rfl, Or.inr rfl, rfl⟩
set_option maxRecDepth 100000 in
theorem lk35_43 : xAt kT35 43 (.iload_n 1) 44 := ⟨1, rfl, Or.inr rfl, rfl⟩
set_option maxRecDepth 100000 in
theorem lk35_44 : xAt kT35 44 (.iaload) 45 := ⟨1, rfl, Or.inr rfl, rfl⟩
set_option maxRecDepth 100000 in
theorem lk35_45 : xAt kT35 45 (.aload_n 0) 46 := ⟨1, rfl, Or.inr rfl, rfl⟩
set_option maxRecDepth 100000 in
theorem lk35_46 : xAt kT35 46 (.getfield 11) 49 := ⟨3, rfl, Or.inr rfl, rfl⟩
set_option maxRecDepth 100000 in
theorem lk35_49 : xAt kT35 49 (.iload_n 1) 50 := ⟨1, rfl, Or.inr rfl, rfl⟩
set_option maxRecDepth 100000 in
theorem lk35_50 : xAt kT35 50 (.aaload) 51 := ⟨1, rfl, Or.inr rfl, rfl⟩
set_option maxRecDepth 100000 in
theorem lk35_51 : xAt kT35 51 (.getfield 96) 54 := ⟨3, rfl, Or.inr rfl, rfl⟩
set_option maxRecDepth 100000 in
theorem lk35_54 : xAt kT35 54 (.invokestatic 103) 57 := ⟨3, rfl, Or.inr rfl, rfl⟩
set_option maxRecDepth 100000 in
theorem lk35_57 : xAt kT35 57 (.iastore) 58 := ⟨1, rfl, Or.inr rfl, rfl⟩
set_option maxRecDepth 100000 in
theorem lk35_58 : xAt kT35 58 (.return_) 59 := ⟨1, rfl, Or.inr rfl, rfl⟩
set_option maxRecDepth 100000 in
theorem lk34_0 : xAt kT34 0 (.aload_n 0) 1 := ⟨1, rfl, Or.inr rfl, rfl⟩
set_option maxRecDepth 100000 in
theorem lk34_1 : xAt kT34 1 (.getfield 72) 4 := ⟨3, rfl, Or.inr rfl, rfl⟩
set_option maxRecDepth 100000 in
theorem lk34_4 : xAt kT34 4 (.ifCond .le 52) 7 := ⟨3, rfl, Or.inr rfl, rfl⟩
set_option maxRecDepth 100000 in
theorem lk34_7 : xAt kT34 7 (.aload_n 0) 8 := ⟨1, rfl, Or.inr rfl, rfl⟩
set_option maxRecDepth 100000 in
theorem lk34_8 : xAt kT34 8 (.getfield 11) 11 := ⟨3, rfl, Or.inr rfl, rfl⟩
set_option maxRecDepth 100000 in
theorem lk34_11 : xAt kT34 11 (.aload_n 0) 12 := ⟨1, rfl, Or.inr rfl, rfl⟩
set_option maxRecDepth 100000 in
theorem lk34_12 : xAt kT34 12 (.getfield 27) 15 := ⟨3, rfl, Or.inr rfl, rfl⟩
set_option maxRecDepth 100000 in
theorem lk34_15 : xAt kT34 15 (.aload_n 0) 16 := ⟨1, rfl, Or.inr rfl, rfl⟩
set_option maxRecDepth 100000 in
theorem lk34_16 : xAt kT34 16 (.getfield 72) 19 := ⟨3, rfl, Or.inr rfl, rfl⟩
set_option maxRecDepth 100000 in
theorem lk34_19 : xAt kT34 19 (.iconst 1) 20 := ⟨1, rfl, Or.inr rfl, rfl⟩
set_option maxRecDepth 100000 in
theorem lk34_20 : xAt kT34 20 (.isub) 21 := ⟨1, rfl, Or.inr rfl, rfl⟩
set_option maxRecDepth 100000 in
theorem lk34_21 : xAt kT34 21 (.iaload) 22 := ⟨1, rfl, Or.inr rfl, rfl⟩
set_option maxRecDepth 100000 in
theorem lk34_22 : xAt kT34 22 (.aaload) 23 := ⟨1, rfl, Or.inr rfl, rfl⟩
set_option maxRecDepth 100000 in
theorem lk34_23 : xAt kT34 23 (.getfield 83) 26 := ⟨3, rfl, Or.inr rfl, rfl⟩
set_option maxRecDepth 100000 in
theorem lk34_26 : xAt kT34 26 (.iload_n 1) 27 := ⟨1, rfl, Or.inr rfl, rfl⟩
set_option maxRecDepth 100000 in
theorem lk34_27 : xAt kT34 27 (.if_icmp .lt 29) 30 := ⟨3, rfl, Or.inr rfl, rfl⟩
set_option maxRecDepth 100000 in
theorem lk34_30 : xAt kT34 30 (.aload_n 0) 31 := ⟨1, rfl, Or.inr rfl, rfl⟩
set_option maxRecDepth 100000 in
theorem lk34_31 : xAt kT34 31 (.dup) 32 := ⟨1, rfl, Or.inr rfl, rfl⟩
set_option maxRecDepth 100000 in
theorem lk34_32 : xAt kT34 32 (.getfield 72) 35 := ⟨3, rfl, Or.inr rfl, rfl⟩
set_option maxRecDepth 100000 in
theorem lk34_35 : xAt kT34 35 (.iconst 1) 36 := ⟨1, rfl, Or.inr rfl, rfl⟩
set_option maxRecDepth 100000 in
theorem lk34_36 : xAt kT34 36 (.isub) 37 := ⟨1, rfl, Or.inr rfl, rfl⟩
set_option maxRecDepth 100000 in
theorem lk34_37 : xAt kT34 37 (.putfield 72) 40 := ⟨3, rfl, Or.inr rfl, rfl⟩
set_option maxRecDepth 100000 in
theorem lk34_40 : xAt kT34 40 (.aload_n 0) 41 := ⟨1, rfl, Or.inr rfl, rfl⟩
set_option maxRecDepth 100000 in
theorem lk34_41 : xAt kT34 41 (.aload_n 0) 42 := ⟨1, rfl, Or.inr rfl, rfl⟩
set_option maxRecDepth 100000 in
theorem lk34_42 : xAt kT34 42 (.getfield 27) 45 := ⟨3, rfl, Or.inr rfl, rfl⟩
set_option maxRecDepth 100000 in
theorem lk34_45 : xAt kT34 45 (.aload_n 0) 46 := ⟨1, rfl, Or.inr rfl, rfl⟩
set_option maxRecDepth 100000 in
theorem lk34_46 : xAt kT34 46 (.getfield 72) 49 := ⟨3, rfl, Or.inr rfl, rfl⟩
set_option maxRecDepth 100000 in
theorem lk34_49 : xAt kT34 49 (.iaload) 50 := ⟨1, rfl, Or.inr rfl, rfl⟩
set_option maxRecDepth 100000 in
theorem lk34_50 : xAt kT34 50 (.invokevirtual 86) 53 := ⟨3, rfl, Or.inr rfl, rfl⟩
set_option maxRecDepth 100000 in
theorem lk34_53 : xAt kT34 53 (.goto (-53)) 56 := ⟨3, rfl, Or.inr rfl, rfl⟩
set_option maxRecDepth 100000 in
theorem lk34_56 : xAt kT34 56 (.aload_n 0) 57 := ⟨1, rfl, Or.inr rfl, rfl⟩
set_option maxRecDepth 100000 in
theorem lk34_57 : xAt kT34 57 (.getfield 72) 60 := ⟨3, rfl, Or.inr rfl, rfl⟩
set_option maxRecDepth 100000 in
theorem lk34_60 : xAt kT34 60 (.ifCond .le 40) 63 := ⟨3, rfl, Or.inr rfl, rfl⟩
set_option maxRecDepth 100000 in
theorem lk34_63 : xAt kT34 63 (.aload_n 0) 64 := ⟨1, rfl, Or.inr rfl, rfl⟩
set_option maxRecDepth 100000 in
theorem lk34_64 : xAt kT34 64 (.getfield 27) 67 := ⟨3, rfl, Or.inr rfl, rfl⟩
set_option maxRecDepth 100000 in
theorem lk34_67 : xAt kT34 67 (.aload_n 0) 68 := ⟨1, rfl, Or.inr rfl, rfl⟩
set_option maxRecDepth 100000 in
theorem lk34_68 : xAt kT34 68 (.getfield 72) 71 := ⟨3, rfl, Or.inr rfl, rfl⟩
set_option maxRecDepth 100000 in
theorem lk34_71 : xAt kT34 71 (.iconst 1) 72 := ⟨1, rfl, Or.inr rfl, rfl⟩
set_option maxRecDepth 100000 in
theorem lk34_72 : xAt kT34 72 (.isub) 73 := ⟨1, rfl, Or.inr rfl, rfl⟩
set_option maxRecDepth 100000 in
theorem lk34_73 : xAt kT34 73 (.iaload) 74 := ⟨1, rfl, Or.inr rfl, rfl⟩
set_option maxRecDepth 100000 in
theorem lk34_74 : xAt kT34 74 (.istore_n 2) 75 := ⟨1, rfl, Or.inr rfl, rfl⟩
set_option maxRecDepth 100000 in
theorem lk34_75 : xAt kT34 75 (.aload_n 0) 76 := ⟨1, rfl, Or.inr rfl, rfl⟩
set_option maxRecDepth 100000 in
theorem lk34_76 : xAt kT34 76 (.iload_n 2) 77 := ⟨1, rfl, Or.inr rfl, rfl⟩
set_option maxRecDepth 100000 in
theorem lk34_77 : xAt kT34 77 (.aload_n 0) 78 := ⟨1, rfl, Or.inr rfl, rfl⟩
set_option maxRecDepth 100000 in
theorem lk34_78 : xAt kT34 78 (.getfield 11) 81 := ⟨3, rfl, Or.inr rfl, rfl⟩
set_option maxRecDepth 100000 in
theorem lk34_81 : xAt kT34 81 (.iload_n 2) 82 := ⟨1, rfl, Or.inr rfl, rfl⟩
set_option maxRecDepth 100000 in
theorem lk34_82 : xAt kT34 82 (.aaload) 83 := ⟨1, rfl, Or.inr rfl, rfl⟩
set_option maxRecDepth 100000 in
theorem lk34_83 : xAt kT34 83 (.iload_n 1) 84 := ⟨1, rfl, Or.inr rfl, rfl⟩
set_option maxRecDepth 100000 in
theorem lk34_84 : xAt kT34 84 (.aload_n 0) 85 := ⟨1, rfl, Or.inr rfl, rfl⟩
set_option maxRecDepth 100000 in
theorem lk34_85 : xAt kT34 85 (.getfield 11) 88 := ⟨3, rfl, Or.inr rfl, rfl⟩
set_option maxRecDepth 100000 in
theorem lk34_88 : xAt kT34 88 (.iload_n 2) 89 := ⟨1, rfl, Or.inr rfl, rfl⟩
set_option maxRecDepth 100000 in
theorem lk34_89 : xAt kT34 89 (.aaload) 90 := ⟨1, rfl, Or.inr rfl, rfl⟩
set_option maxRecDepth 100000 in
theorem lk34_90 : xAt kT34 90 (.getfield 83) 93 := ⟨3, rfl, Or.inr rfl, rfl⟩
set_option maxRecDepth 100000 in
theorem lk34_93 : xAt kT34 93 (.isub) 94 := ⟨1, rfl, Or.inr rfl, rfl⟩
set_option maxRecDepth 100000 in
theorem lk34_94 : xAt kT34 94 (.invokevirtual 89) 97 := ⟨3, rfl, Or.inr rfl, rfl⟩
set_option maxRecDepth 100000 in
theorem lk34_97 : xAt kT34 97 (.invokevirtual 93) 100 := ⟨3, rfl, Or.inr rfl, rfl⟩
set_option maxRecDepth 100000 in
theorem lk34_100 : xAt kT34 100 (.return_) 101 := ⟨1, rfl, Or.inr rfl, rfl⟩
set_option maxRecDepth 100000 in
theorem lk110_0 : xAt kT110 0 (.aload_n 0) 1 := ⟨1, rfl, Or.inr rfl, rfl⟩
set_option maxRecDepth 100000 in
theorem lk110_1 : xAt kT110 1 (.getfield 15) 4 := ⟨3, rfl, Or.inr rfl, rfl⟩
set_option maxRecDepth 100000 in
theorem lk110_4 : xAt kT110 4 (.arraylength) 5 := ⟨1, rfl, Or.inr rfl, rfl⟩
set_option maxRecDepth 100000 in
theorem lk110_5 : xAt kT110 5 (.iload_n 1) 6 := ⟨1, rfl, Or.inr rfl, rfl⟩
set_option maxRecDepth 100000 in
theorem lk110_6 : xAt kT110 6 (.if_icmp .ge 39) 9 := ⟨3, rfl, Or.inr rfl, rfl⟩
set_option maxRecDepth 100000 in
theorem lk110_9 : xAt kT110 9 (.bipush 16) 11 := ⟨2, rfl, Or.inr rfl, rfl⟩
set_option maxRecDepth 100000 in
theorem lk110_11 : xAt kT110 11 (.iconst 2) 12 := ⟨1, rfl, Or.inr rfl, rfl⟩
set_option maxRecDepth 100000 in
theorem lk110_12 : xAt kT110 12 (.iload_n 1) 13 := ⟨1, rfl, Or.inr rfl, rfl⟩
set_option maxRecDepth 100000 in
theorem lk110_13 : xAt kT110 13 (.imul) 14 := ⟨1, rfl, Or.inr rfl, rfl⟩
set_option maxRecDepth 100000 in
theorem lk110_14 : xAt kT110 14 (.invokestatic 55) 17 := ⟨3, rfl, Or.inr rfl, rfl⟩
set_option maxRecDepth 100000 in
theorem lk110_17 : xAt kT110 17 (.istore_n 2) 18 := ⟨1, rfl, Or.inr rfl, rfl⟩
set_option maxRecDepth 100000 in
theorem lk110_18 : xAt kT110 18 (.aload_n 0) 19 := ⟨1, rfl, Or.inr rfl, rfl⟩
set_option maxRecDepth 100000 in
theorem lk110_19 : xAt kT110 19 (.aload_n 0) 20 := ⟨1, rfl, Or.inr rfl, rfl⟩
set_option maxRecDepth 100000 in
theorem lk110_20 : xAt kT110 20 (.getfield 15) 23 := ⟨3, rfl, Or.inr rfl, rfl⟩
set_option maxRecDepth 100000 in
theorem lk110_23 : xAt kT110 23 (.iload_n 2) 24 := ⟨1, rfl, Or.inr rfl, rfl⟩
set_option maxRecDepth 100000 in
theorem lk110_24 : xAt kT110 24 (.invokestatic 61) 27 := ⟨3, rfl, Or.inr rfl, rfl⟩
set_option maxRecDepth 100000 in
theorem lk110_27 : xAt kT110 27 (.putfield 15) 30 := ⟨3, rfl, Or.inr rfl, rfl⟩
set_option maxRecDepth 100000 in
theorem lk110_30 : xAt kT110 30 (.aload_n 0) 31 := ⟨1, rfl, Or.inr rfl, rfl⟩
set_option maxRecDepth 100000 in
theorem lk110_31 : xAt kT110 31 (.aload_n 0) 32 := ⟨1, rfl, Or.inr rfl, rfl⟩
set_option maxRecDepth 100000 in
theorem lk110_32 : xAt kT110 32 (.getfield 9) 35 := ⟨3, rfl, Or.inr rfl, rfl⟩
set_option maxRecDepth 100000 in
theorem lk110_35 : xAt kT110 35 (.iload_n 2) 36 := ⟨1, rfl, Or.inr rfl, rfl⟩
set_option maxRecDepth 100000 in
theorem lk110_36 : xAt kT110 36 (.bipush 6) 38 := ⟨2, rfl, Or.inr rfl, rfl⟩
set_option maxRecDepth 100000 in
theorem lk110_38 : xAt kT110 38 (.imul) 39 := ⟨1, rfl, Or.inr rfl, rfl⟩
set_option maxRecDepth 100000 in
theorem lk110_39 : xAt kT110 39 (.invokestatic 61) 42 := ⟨3, rfl, Or.inr rfl, rfl⟩
set_option maxRecDepth 100000 in
theorem lk110_42 : xAt kT110 42 (.putfield 9) 45 := ⟨3, rfl, Or.inr rfl, rfl⟩
set_option maxRecDepth 100000 in
theorem lk110_45 : xAt kT110 45 (.return_) 46 := ⟨1, rfl, Or.inr rfl, rfl⟩
set_option maxRecDepth 100000 in
theorem lk113_0 : xAt kT113 0 (.aload_n 0) 1 := ⟨1, rfl, Or.inr rfl, rfl⟩
set_option maxRecDepth 100000 in
theorem lk113_1 : xAt kT113 1 (.aload_n 1) 2 := ⟨1, rfl, Or.inr rfl, rfl⟩
set_option maxRecDepth 100000 in
theorem lk113_2 : xAt kT113 2 (.getfield 22) 5 := ⟨3, rfl, Or.inr rfl, rfl⟩
set_option maxRecDepth 100000 in
theorem lk113_5 : xAt kT113 5 (.putfield 22) 8 := ⟨3, rfl, Or.inr rfl, rfl⟩
set_option maxRecDepth 100000 in
theorem lk113_8 : xAt kT113 8 (.aload_n 0) 9 := ⟨1, rfl, Or.inr rfl, rfl⟩
set_option maxRecDepth 100000 in
theorem lk113_9 : xAt kT113 9 (.aload_n 1) 10 := ⟨1, rfl, Or.inr rfl, rfl⟩
set_option maxRecDepth 100000 in
theorem lk113_10 : xAt kT113 10 (.getfield 26) 13 := ⟨3, rfl, Or.inr rfl, rfl⟩
set_option maxRecDepth 100000 in
theorem lk113_13 : xAt kT113 13 (.putfield 26) 16 := ⟨3, rfl, Or.inr rfl, rfl⟩
set_option maxRecDepth 100000 in
theorem lk113_16 : xAt kT113 16 (.aload_n 0) 17 := ⟨1, rfl, Or.inr rfl, rfl⟩
set_option maxRecDepth 100000 in
theorem lk113_17 : xAt kT113 17 (.aload_n 1) 18 := ⟨1, rfl, Or.inr rfl, rfl⟩
set_option maxRecDepth 100000 in
theorem lk113_18 : xAt kT113 18 (.getfield 30) 21 := ⟨3, rfl, Or.inr rfl, rfl⟩
set_option maxRecDepth 100000 in
theorem lk113_21 : xAt kT113 21 (.putfield 30) 24 := ⟨3, rfl, Or.inr rfl, rfl⟩
set_option maxRecDepth 100000 in
theorem lk113_24 : xAt kT113 24 (.aload_n 0) 25 := ⟨1, rfl, Or.inr rfl, rfl⟩
set_option maxRecDepth 100000 in
theorem lk113_25 : xAt kT113 25 (.aload_n 1) 26 := ⟨1, rfl, Or.inr rfl, rfl⟩
set_option maxRecDepth 100000 in
theorem lk113_26 : xAt kT113 26 (.getfield 33) 29 := ⟨3, rfl, Or.inr rfl, rfl⟩
set_option maxRecDepth 100000 in
theorem lk113_29 : xAt kT113 29 (.putfield 33) 32 := ⟨3, rfl, Or.inr rfl, rfl⟩
set_option maxRecDepth 100000 in
theorem lk113_32 : xAt kT113 32 (.aload_n 0) 33 := ⟨1, rfl, Or.inr rfl, rfl⟩
set_option maxRecDepth 100000 in
theorem lk113_33 : xAt kT113 33 (.aload_n 1) 34 := ⟨1, rfl, Or.inr rfl, rfl⟩
set_option maxRecDepth 100000 in
theorem lk113_34 : xAt kT113 34 (.getfield 36) 37 := ⟨3, rfl, Or.inr rfl, rfl⟩
set_option maxRecDepth 100000 in
theorem lk113_37 : xAt kT113 37 (.putfield 36) 40 := ⟨3, rfl, Or.inr rfl, rfl⟩
set_option maxRecDepth 100000 in
theorem lk113_40 : xAt kT113 40 (.aload_n 0) 41 := ⟨1, rfl, Or.inr rfl, rfl⟩
set_option maxRecDepth 100000 in
theorem lk113_41 : xAt kT113 41 (.aload_n 1) 42 := ⟨1, rfl, Or.inr rfl, rfl⟩
set_option maxRecDepth 100000 in
theorem lk113_42 : xAt kT113 42 (.getfield 39) 45 := ⟨3, rfl, Or.inr rfl, rfl⟩
set_option maxRecDepth 100000 in
theorem lk113_45 : xAt kT113 45 (.invokevirtual 45) 48 := ⟨3, rfl, Or.inr rfl, rfl⟩
set_option maxRecDepth 100000 in
theorem lk113_48 : xAt kT113 48 (.aload_n 1) 49 := ⟨1, rfl, Or.inr rfl, rfl⟩
set_option maxRecDepth 100000 in
theorem lk113_49 : xAt kT113 49 (.getfield 39) 52 := ⟨3, rfl, Or.inr rfl, rfl⟩
set_option maxRecDepth 100000 in
theorem lk113_52 : xAt kT113 52 (.iload_n 2) 53 := ⟨1, rfl, Or.inr rfl, rfl⟩
set_option maxRecDepth 100000 in
theorem lk113_53 : xAt kT113 53 (.isub) 54 := ⟨1, rfl, Or.inr rfl, rfl⟩
set_option maxRecDepth 100000 in
theorem lk113_54 : xAt kT113 54 (.istore_n 3) 55 := ⟨1, rfl, Or.inr rfl, rfl⟩
set_option maxRecDepth 100000 in
theorem lk113_55 : xAt kT113 55 (.iload_n 3) 56 := ⟨1, rfl, Or.inr rfl, rfl⟩
set_option maxRecDepth 100000 in
theorem lk113_56 : xAt kT113 56 (.ifCond .le 40) 59 := ⟨3, rfl, Or.inr rfl, rfl⟩
set_option maxRecDepth 100000 in
theorem lk113_59 : xAt kT113 59 (.aload_n 1) 60 := ⟨1, rfl, Or.inr rfl, rfl⟩
set_option maxRecDepth 100000 in
theorem lk113_60 : xAt kT113 60 (.getfield 9) 63 := ⟨3, rfl, Or.inr rfl, rfl⟩
set_option maxRecDepth 100000 in
theorem lk113_63 : xAt kT113 63 (.iload_n 2) 64 := ⟨1, rfl, Or.inr rfl, rfl⟩
set_option maxRecDepth 100000 in
theorem lk113_64 : xAt kT113 64 (.bipush 6) 66 := ⟨2, rfl, Or.inr rfl, rfl⟩
set_option maxRecDepth 100000 in
theorem lk113_66 : xAt kT113 66 (.imul) 67 := ⟨1, rfl, Or.inr rfl, rfl⟩
set_option maxRecDepth 100000 in
theorem lk113_67 : xAt kT113 67 (.aload_n 0) 68 := ⟨1, rfl, Or.inr rfl, rfl⟩
set_option maxRecDepth 100000 in
theorem lk113_68 : xAt kT113 68 (.getfield 9) 71 := ⟨3, rfl, Or.inr rfl, rfl⟩
set_option maxRecDepth 100000 in
theorem lk113_71 : xAt kT113 71 (.iload_n 2) 72 := ⟨1, rfl, Or.inr rfl, rfl⟩
set_option maxRecDepth 100000 in
theorem lk113_72 : xAt kT113 72 (.bipush 6) 74 := ⟨2, rfl, Or.inr rfl, rfl⟩
set_option maxRecDepth 100000 in
theorem lk113_74 : xAt kT113 74 (.imul) 75 := ⟨1, rfl, Or.inr rfl, rfl⟩
set_option maxRecDepth 100000 in
theorem lk113_75 : xAt kT113 75 (.iload_n 3) 76 := ⟨1, rfl, Or.inr rfl, rfl⟩
set_option maxRecDepth 100000 in
theorem lk113_76 : xAt kT113 76 (.bipush 6) 78 := ⟨2, rfl, Or.inr rfl, rfl⟩
set_option maxRecDepth 100000 in
theorem lk113_78 : xAt kT113 78 (.imul) 79 := ⟨1, rfl, Or.inr rfl, rfl⟩
set_option maxRecDepth 100000 in
theorem lk113_79 : xAt kT113 79 (.invokestatic 49) 82 := ⟨3, rfl, Or.inr rfl, rfl⟩
set_option maxRecDepth 100000 in
theorem lk113_82 : xAt kT113 82 (.aload_n 1) 83 := ⟨1, rfl, Or.inr rfl, rfl⟩
set_option maxRecDepth 100000 in
theorem lk113_83 : xAt kT113 83 (.getfield 15) 86 := ⟨3, rfl, Or.inr rfl, rfl⟩
set_option maxRecDepth 100000 in
theorem lk113_86 : xAt kT113 86 (.iload_n 2) 87 := ⟨1, rfl, Or.inr rfl, rfl⟩
set_option maxRecDepth 100000 in
theorem lk113_87 : xAt kT113 87 (.aload_n 0) 88 := ⟨1, rfl, Or.inr rfl, rfl⟩
set_option maxRecDepth 100000 in
theorem lk113_88 : xAt kT113 88 (.getfield 15) 91 := ⟨3, rfl, Or.inr rfl, rfl⟩
set_option maxRecDepth 100000 in
theorem lk113_91 : xAt kT113 91 (.iload_n 2) 92 := ⟨1, rfl, Or.inr rfl, rfl⟩
set_option maxRecDepth 100000 in
theorem lk113_92 : xAt kT113 92 (.iload_n 3) 93 := ⟨1, rfl, Or.inr rfl, rfl⟩
set_option maxRecDepth 100000 in
theorem lk113_93 : xAt kT113 93 (.invokestatic 49) 96 := ⟨3, rfl, Or.inr rfl, rfl⟩
set_option maxRecDepth 100000 in
theorem lk113_96 : xAt kT113 96 (.aload_n 0) 97 := ⟨1, rfl, Or.inr rfl, rfl⟩
set_option maxRecDepth 100000 in
theorem lk113_97 : xAt kT113 97 (.aload_n 1) 98 := ⟨1, rfl, Or.inr rfl, rfl⟩
set_option maxRecDepth 100000 in
theorem lk113_98 : xAt kT113 98 (.getfield 39) 101 := ⟨3, rfl, Or.inr rfl, rfl⟩
set_option maxRecDepth 100000 in
theorem lk113_101 : xAt kT113 101 (.putfield 39) 104 := ⟨3, rfl, Or.inr rfl, rfl⟩
set_option maxRecDepth 100000 in
theorem lk113_104 : xAt kT113 104 (.return_) 105 := ⟨1, rfl, Or.inr rfl, rfl⟩
set_option maxRecDepth 100000 in
theorem lk49_0 : xAt kT49 0 (.aload_n 0) 1 := ⟨1, rfl, Or.inr rfl, rfl⟩
set_option maxRecDepth 100000 in
theorem lk49_1 : xAt kT49 1 (.getfield 17) 4 := ⟨3, rfl, Or.inr rfl, rfl⟩
set_option maxRecDepth 100000 in
theorem lk49_4 : xAt kT49 4 (.iload_n 1) 5 := ⟨1, rfl, Or.inr rfl, rfl⟩
set_option maxRecDepth 100000 in
theorem lk49_5 : xAt kT49 5 (.aaload) 6 := ⟨1, rfl, Or.inr rfl, rfl⟩
set_option maxRecDepth 100000 in
theorem lk49_6 : xAt kT49 6 (.aload_n 0) 7 := ⟨1, rfl, Or.inr rfl, rfl⟩
set_option maxRecDepth 100000 in
theorem lk49_7 : xAt kT49 7 (.getfield 11) 10 := ⟨3, rfl, Or.inr rfl, rfl⟩
set_option maxRecDepth 100000 in
theorem lk49_10 : xAt kT49 10 (.iload_n 1) 11 := ⟨1, rfl, Or.inr rfl, rfl⟩
set_option maxRecDepth 100000 in
theorem lk49_11 : xAt kT49 11 (.aaload) 12 := ⟨1, rfl, Or.inr rfl, rfl⟩
set_option maxRecDepth 100000 in
theorem lk49_12 : xAt kT49 12 (.if_acmp .eq 39) 15 := ⟨3, rfl, Or.inr rfl, rfl⟩
set_option maxRecDepth 100000 in
theorem lk49_15 : xAt kT49 15 (.aload_n 0) 16 := ⟨1, rfl, Or.inr rfl, rfl⟩
set_option maxRecDepth 100000 in
theorem lk49_16 : xAt kT49 16 (.getfield 17) 19 := ⟨3, rfl, Or.inr rfl, rfl⟩
set_option maxRecDepth 100000 in
theorem lk49_19 : xAt kT49 19 (.iload_n 1) 20 := ⟨1, rfl, Or.inr rfl, rfl⟩
set_option maxRecDepth 100000 in
theorem lk49_20 : xAt kT49 20 (.aaload) 21 := ⟨1, rfl, Or.inr rfl, rfl⟩
set_option maxRecDepth 100000 in
theorem lk49_21 : xAt kT49 21 (.aload_n 0) 22 := ⟨1, rfl, Or.inr rfl, rfl⟩
set_option maxRecDepth 100000 in
theorem lk49_22 : xAt kT49 22 (.getfield 11) 25 := ⟨3, rfl, Or.inr rfl, rfl⟩
set_option maxRecDepth 100000 in
theorem lk49_25 : xAt kT49 25 (.iload_n 1) 26 := ⟨1, rfl, Or.inr rfl, rfl⟩
set_option maxRecDepth 100000 in
theorem lk49_26 : xAt kT49 26 (.aaload) 27 := ⟨1, rfl, Or.inr rfl, rfl⟩
set_option maxRecDepth 100000 in
theorem lk49_27 : xAt kT49 27 (.aload_n 0) 28 := ⟨1, rfl, Or.inr rfl, rfl⟩
set_option maxRecDepth 100000 in
theorem lk49_28 : xAt kT49 28 (.getfield 24) 31 := ⟨3, rfl, Or.inr rfl, rfl⟩
set_option maxRecDepth 100000 in
theorem lk49_31 : xAt kT49 31 (.iload_n 1) 32 := ⟨1, rfl, Or.inr rfl, rfl⟩
set_option maxRecDepth 100000 in
theorem lk49_32 : xAt kT49 32 (.iaload) 33 := ⟨1, rfl, Or.inr rfl, rfl⟩
set_option maxRecDepth 100000 in
theorem lk49_33 : xAt kT49 33 (.invokevirtual 112) 36 := ⟨3, rfl, Or.inr rfl, rfl⟩
set_option maxRecDepth 100000 in
theorem lk49_36 : xAt kT49 36 (.aload_n 0) 37 := ⟨1, rfl, Or.inr rfl, rfl⟩
set_option maxRecDepth 100000 in
theorem lk49_37 : xAt kT49 37 (.getfield 24) 40 := ⟨3, rfl, Or.inr rfl, rfl⟩
set_option maxRecDepth 100000 in
theorem lk49_40 : xAt kT49 40 (.iload_n 1) 41 := ⟨1, rfl, Or.inr rfl, rfl⟩
set_option maxRecDepth 100000 in
theorem lk49_41 : xAt kT49 41 (.aload_n 0) 42 := ⟨1, rfl, Or.inr rfl, rfl⟩
set_option maxRecDepth 100000 in
theorem lk49_42 : xAt kT49 42 (.getfield 11) 45 := ⟨3, rfl, Or.inr rfl, rfl⟩
set_option maxRecDepth 100000 in
theorem lk49_45 : xAt kT49 45 (.iload_n 1) 46 := ⟨1, rfl, Or.inr rfl, rfl⟩
set_option maxRecDepth 100000 in
theorem lk49_46 : xAt kT49 46 (.aaload) 47 := ⟨1, rfl, Or.inr rfl, rfl⟩
set_option maxRecDepth 100000 in
theorem lk49_47 : xAt kT49 47 (.getfield 96) 50 := ⟨3, rfl, Or.inr rfl, rfl⟩
set_option maxRecDepth 100000 in
theorem lk49_50 : xAt kT49 50 (.iastore) 51 := ⟨1, rfl, Or.inr rfl, rfl⟩
set_option maxRecDepth 100000 in
theorem lk49_51 : xAt kT49 51 (.aload_n 0) 52 := ⟨1, rfl, Or.inr rfl, rfl⟩
set_option maxRecDepth 100000 in
theorem lk49_52 : xAt kT49 52 (.getfield 20) 55 := ⟨3, rfl, Or.inr rfl, rfl⟩
set_option maxRecDepth 100000 in
theorem lk49_55 : xAt kT49 55 (.iload_n 1) 56 := ⟨1, rfl, Or.inr rfl, rfl⟩
set_option maxRecDepth 100000 in
theorem lk49_56 : xAt kT49 56 (.aload_n 0) 57 := ⟨1, rfl, Or.inr rfl, rfl⟩
set_option maxRecDepth 100000 in
theorem lk49_57 : xAt kT49 57 (.getfield 11) 60 := ⟨3, rfl, Or.inr rfl, rfl⟩
set_option maxRecDepth 100000 in
theorem lk49_60 : xAt kT49 60 (.iload_n 1) 61 := ⟨1, rfl, Or.inr rfl, rfl⟩
set_option maxRecDepth 100000 in
theorem lk49_61 : xAt kT49 61 (.aaload) 62 := ⟨1, rfl, Or.inr rfl, rfl⟩
set_option maxRecDepth 100000 in
theorem lk49_62 : xAt kT49 62 (.getfield 38) 65 := ⟨3, rfl, Or.inr rfl, rfl⟩
set_option maxRecDepth 100000 in
theorem lk49_65 : xAt kT49 65 (.iastore) 66 := ⟨1, rfl, Or.inr rfl, rfl⟩
set_option maxRecDepth 100000 in
theorem lk49_66 : xAt kT49 66 (.return_) 67 := ⟨1, rfl, Or.inr rfl, rfl⟩
set_option maxRecDepth 100000 in
theorem lk36_0 : xAt kT36 0 (.lload_n 1) 1 := ⟨1, rfl, Or.inr rfl, rfl⟩
set_option maxRecDepth 100000 in
theorem lk36_1 : xAt kT36 1 (.lstore_n 3) 2 := ⟨1, rfl, Or.inr rfl, rfl⟩
set_option maxRecDepth 100000 in
theorem lk36_2 : xAt kT36 2 (.iconst 0) 3 := ⟨1, rfl, Or.inr rfl, rfl⟩
set_option maxRecDepth 100000 in
theorem lk36_3 : xAt kT36 3 (.istore 5) 5 := ⟨2, rfl, Or.inr rfl, rfl⟩
set_option maxRecDepth 100000 in
theorem lk36_5 : xAt kT36 5 (.iload 5) 7 := ⟨2, rfl, Or.inr rfl, rfl⟩
set_option maxRecDepth 100000 in
theorem lk36_7 : xAt kT36 7 (.bipush 16) 9 := ⟨2, rfl, Or.inr rfl, rfl⟩
set_option maxRecDepth 100000 in
theorem lk36_9 : xAt kT36 9 (.if_icmp .ge 150) 12 := ⟨3, rfl, Or.inr rfl, rfl⟩
set_option maxRecDepth 100000 in
theorem lk36_12 : xAt kT36 12 (.lload_n 3) 13 := ⟨1, rfl, Or.inr rfl, rfl⟩
set_option maxRecDepth 100000 in
theorem lk36_13 : xAt kT36 13 (.ldc2_w 116) 16 := ⟨3, rfl, Or.inr rfl, rfl⟩
set_option maxRecDepth 100000 in
theorem lk36_16 : xAt kT36 16 (.lmul) 17 := ⟨1, rfl, Or.inr rfl, rfl⟩
set_option maxRecDepth 100000 in
theorem lk36_17 : xAt kT36 17 (.ldc2_w 118) 20 := ⟨3, rfl, Or.inr rfl, rfl⟩
set_option maxRecDepth 100000 in
theorem lk36_20 : xAt kT36 20 (.ladd) 21 := ⟨1, rfl, Or.inr rfl, rfl⟩
set_option maxRecDepth 100000 in
theorem lk36_21 : xAt kT36 21 (.lstore_n 3) 22 := ⟨1, rfl, Or.inr rfl, rfl⟩
set_option maxRecDepth 100000 in
theorem lk36_22 : xAt kT36 22 (.iconst 2) 23 := ⟨1, rfl, Or.inr rfl, rfl⟩
set_option maxRecDepth 100000 in
theorem lk36_23 : xAt kT36 23 (.iconst 0) 24 := ⟨1, rfl, Or.inr rfl, rfl⟩
set_option maxRecDepth 100000 in
theorem lk36_24 : xAt kT36 24 (.aload_n 0) 25 := ⟨1, rfl, Or.inr rfl, rfl⟩
set_option maxRecDepth 100000 in
theorem lk36_25 : xAt kT36 25 (.getfield 11) 28 := ⟨3, rfl, Or.inr rfl, rfl⟩
set_option maxRecDepth 100000 in
theorem lk36_28 : xAt kT36 28 (.iload 5) 30 := ⟨2, rfl, Or.inr rfl, rfl⟩
set_option maxRecDepth 100000 in
theorem lk36_30 : xAt kT36 30 (.aaload) 31 := ⟨1, rfl, Or.inr rfl, rfl⟩
set_option maxRecDepth 100000 in
theorem lk36_31 : xAt kT36 31 (.getfield 38) 34 := ⟨3, rfl, Or.inr rfl, rfl⟩
set_option maxRecDepth 100000 in
theorem lk36_34 : xAt kT36 34 (.aload_n 0) 35 := ⟨1, rfl, Or.inr rfl, rfl⟩
set_option maxRecDepth 100000 in
theorem lk36_35 : xAt kT36 35 (.getfield 20) 38 := ⟨3, rfl, Or.inr rfl, rfl⟩
set_option maxRecDepth 100000 in
theorem lk36_38 : xAt kT36 38 (.iload 5) 40 := ⟨2, rfl, Or.inr rfl, rfl⟩
set_option maxRecDepth 100000 in
theorem lk36_40 : xAt kT36 40 (.iaload) 41 := ⟨1, rfl, Or.inr rfl, rfl⟩
set_option maxRecDepth 100000 in
theorem lk36_41 : xAt kT36 41 (.isub) 42 := ⟨1, rfl, Or.inr rfl, rfl⟩
set_option maxRecDepth 100000 in
theorem lk36_42 : xAt kT36 42 (.invokestatic 120) 45 := ⟨3, rfl, Or.inr rfl, rfl⟩
set_option maxRecDepth 100000 in
theorem lk36_45 : xAt kT36 45 (.imul) 46 := ⟨1, rfl, Or.inr rfl, rfl⟩
set_option maxRecDepth 100000 in
theorem lk36_46 : xAt kT36 46 (.iconst 1) 47 := ⟨1, rfl, Or.inr rfl, rfl⟩
set_option maxRecDepth 100000 in
theorem lk36_47 : xAt kT36 47 (.iadd) 48 := ⟨1, rfl, Or.inr rfl, rfl⟩
set_option maxRecDepth 100000 in
theorem lk36_48 : xAt kT36 48 (.istore 6) 50 := ⟨2, rfl, Or.inr rfl, rfl⟩
set_option maxRecDepth 100000 in
theorem lk36_50 : xAt kT36 50 (.lload_n 3) 51 := ⟨1, rfl, Or.inr rfl, rfl⟩
set_option maxRecDepth 100000 in
theorem lk36_51 : xAt kT36 51 (.bipush 61) 53 := ⟨2, rfl, Or.inr rfl, rfl⟩
set_option maxRecDepth 100000 in
theorem lk36_53 : xAt kT36 53 (.lushr) 54 := ⟨1, rfl, Or.inr rfl, rfl⟩
set_option maxRecDepth 100000 in
theorem lk36_54 : xAt kT36 54 (.lconst 0) 55 := ⟨1, rfl, Or.inr rfl, rfl⟩
set_option maxRecDepth 100000 in
theorem lk36_55 : xAt kT36 55 (.lcmp) 56 := ⟨1, rfl, Or.inr rfl, rfl⟩
set_option maxRecDepth 100000 in
theorem lk36_56 : xAt kT36 56 (.ifCond .eq 33) 59 := ⟨3, rfl, Or.inr rfl, rfl⟩
set_option maxRecDepth 100000 in
theorem lk36_59 : xAt kT36 59 (.aload_n 0) 60 := ⟨1, rfl, Or.inr rfl, rfl⟩
set_option maxRecDepth 100000 in
theorem lk36_60 : xAt kT36 60 (.iload 5) 62 := ⟨2, rfl, Or.inr rfl, rfl⟩
set_option maxRecDepth 100000 in
theorem lk36_62 : xAt kT36 62 (.aload_n 0) 63 := ⟨1, rfl, Or.inr rfl, rfl⟩
set_option maxRecDepth 100000 in
theorem lk36_63 : xAt kT36 63 (.getfield 20) 66 := ⟨3, rfl, Or.inr rfl, rfl⟩
set_option maxRecDepth 100000 in
theorem lk36_66 : xAt kT36 66 (.iload 5) 68 := ⟨2, rfl, Or.inr rfl, rfl⟩
set_option maxRecDepth 100000 in
theorem lk36_68 : xAt kT36 68 (.iaload) 69 := ⟨1, rfl, Or.inr rfl, rfl⟩
set_option maxRecDepth 100000 in
theorem lk36_69 : xAt kT36 69 (.lload_n 3) 70 := ⟨1, rfl, Or.inr rfl, rfl⟩
set_option maxRecDepth 100000 in
theorem lk36_70 : xAt kT36 70 (.bipush 33) 72 := ⟨2, rfl, Or.inr rfl, rfl⟩
set_option maxRecDepth 100000 in
theorem lk36_72 : xAt kT36 72 (.lushr) 73 := ⟨1, rfl, Or.inr rfl, rfl⟩
set_option maxRecDepth 100000 in
theorem lk36_73 : xAt kT36 73 (.ldc2_w 123) 76 := ⟨3, rfl, Or.inr rfl, rfl⟩
set_option maxRecDepth 100000 in
theorem lk36_76 : xAt kT36 76 (.land) 77 := ⟨1, rfl, Or.inr rfl, rfl⟩
set_option maxRecDepth 100000 in
theorem lk36_77 : xAt kT36 77 (.iload 6) 79 := ⟨2, rfl, Or.inr rfl, rfl⟩
set_option maxRecDepth 100000 in
theorem lk36_79 : xAt kT36 79 (.i2l) 80 := ⟨1, rfl, Or.inr rfl, rfl⟩
set_option maxRecDepth 100000 in
theorem lk36_80 : xAt kT36 80 (.lrem) 81 := ⟨1, rfl, Or.inr rfl, rfl⟩
set_option maxRecDepth 100000 in
theorem lk36_81 : xAt kT36 81 (.l2i) 82 := ⟨1, rfl, Or.inr rfl, rfl⟩
set_option maxRecDepth 100000 in
theorem lk36_82 : xAt kT36 82 (.iadd) 83 := ⟨1, rfl, Or.inr rfl, rfl⟩
set_option maxRecDepth 100000 in
theorem lk36_83 : xAt kT36 83 (.invokevirtual 93) 86 := ⟨3, rfl, Or.inr rfl, rfl⟩
set_option maxRecDepth 100000 in
theorem lk36_86 : xAt kT36 86 (.goto 61) 89 := ⟨3, rfl, Or.inr rfl, rfl⟩
set_option maxRecDepth 100000 in
theorem lk36_89 : xAt kT36 89 (.aload_n 0) 90 := ⟨1, rfl, Or.inr rfl, rfl⟩
set_option maxRecDepth 100000 in
theorem lk36_90 : xAt kT36 90 (.getfield 17) 93 := ⟨3, rfl, Or.inr rfl, rfl⟩
set_option maxRecDepth 100000 in
theorem lk36_93 : xAt kT36 93 (.iload 5) 95 := ⟨2, rfl, Or.inr rfl, rfl⟩
set_option maxRecDepth 100000 in
theorem lk36_95 : xAt kT36 95 (.aaload) 96 := ⟨1, rfl, Or.inr rfl, rfl⟩
set_option maxRecDepth 100000 in
theorem lk36_96 : xAt kT36 96 (.aload_n 0) 97 := ⟨1, rfl, Or.inr rfl, rfl⟩
set_option maxRecDepth 100000 in
theorem lk36_97 : xAt kT36 97 (.getfield 11) 100 := ⟨3, rfl, Or.inr rfl, rfl⟩
set_option maxRecDepth 100000 in
theorem lk36_100 : xAt kT36 100 (.iload 5) 102 := ⟨2, rfl, Or.inr rfl, rfl⟩
set_option maxRecDepth 100000 in
theorem lk36_102 : xAt kT36 102 (.aaload) 103 := ⟨1, rfl, Or.inr rfl, rfl⟩
set_option maxRecDepth 100000 in
theorem lk36_103 : xAt kT36 103 (.if_acmp .eq 44) 106 := ⟨3, rfl, Or.inr rfl, rfl⟩
set_option maxRecDepth 100000 in
theorem lk36_106 : xAt kT36 106 (.aload_n 0) 107 := ⟨1, rfl, Or.inr rfl, rfl⟩
set_option maxRecDepth 100000 in
theorem lk36_107 : xAt kT36 107 (.getfield 11) 110 := ⟨3, rfl, Or.inr rfl, rfl⟩
set_option maxRecDepth 100000 in
theorem lk36_110 : xAt kT36 110 (.iload 5) 112 := ⟨2, rfl, Or.inr rfl, rfl⟩
set_option maxRecDepth 100000 in
theorem lk36_112 : xAt kT36 112 (.aaload) 113 := ⟨1, rfl, Or.inr rfl, rfl⟩
set_option maxRecDepth 100000 in
theorem lk36_113 : xAt kT36 113 (.aload_n 0) 114 := ⟨1, rfl, Or.inr rfl, rfl⟩
set_option maxRecDepth 100000 in
theorem lk36_114 : xAt kT36 114 (.getfield 17) 117 := ⟨3, rfl, Or.inr rfl, rfl⟩
set_option maxRecDepth 100000 in
theorem lk36_117 : xAt kT36 117 (.iload 5) 119 := ⟨2, rfl, Or.inr rfl, rfl⟩
set_option maxRecDepth 100000 in
theorem lk36_119 : xAt kT36 119 (.aaload) 120 := ⟨1, rfl, Or.inr rfl, rfl⟩
set_option maxRecDepth 100000 in
theorem lk36_120 : xAt kT36 120 (.aload_n 0) 121 := ⟨1, rfl, Or.inr rfl, rfl⟩
set_option maxRecDepth 100000 in
theorem lk36_121 : xAt kT36 121 (.getfield 24) 124 := ⟨3, rfl, Or.inr rfl, rfl⟩
set_option maxRecDepth 100000 in
theorem lk36_124 : xAt kT36 124 (.iload 5) 126 := ⟨2, rfl, Or.inr rfl, rfl⟩
set_option maxRecDepth 100000 in
theorem lk36_126 : xAt kT36 126 (.iaload) 127 := ⟨1, rfl, Or.inr rfl, rfl⟩
set_option maxRecDepth 100000 in
theorem lk36_127 : xAt kT36 127 (.invokevirtual 112) 130 := ⟨3, rfl, Or.inr rfl, rfl⟩
set_option maxRecDepth 100000 in
theorem lk36_130 : xAt kT36 130 (.aload_n 0) 131 := ⟨1, rfl, Or.inr rfl, rfl⟩
set_option maxRecDepth 100000 in
theorem lk36_131 : xAt kT36 131 (.getfield 24) 134 := ⟨3, rfl, Or.inr rfl, rfl⟩
set_option maxRecDepth 100000 in
theorem lk36_134 : xAt kT36 134 (.iload 5) 136 := ⟨2, rfl, Or.inr rfl, rfl⟩
set_option maxRecDepth 100000 in
theorem lk36_136 : xAt kT36 136 (.aload_n 0) 137 := ⟨1, rfl, Or.inr rfl, rfl⟩
set_option maxRecDepth 100000 in
theorem lk36_137 : xAt kT36 137 (.getfield 11) 140 := ⟨3, rfl, Or.inr rfl, rfl⟩
set_option maxRecDepth 100000 in
theorem lk36_140 : xAt kT36 140 (.iload 5) 142 := ⟨2, rfl, Or.inr rfl, rfl⟩
set_option maxRecDepth 100000 in
theorem lk36_142 : xAt kT36 142 (.aaload) 143 := ⟨1, rfl, Or.inr rfl, rfl⟩
set_option maxRecDepth 100000 in
theorem lk36_143 : xAt kT36 143 (.getfield 96) 146 := ⟨3, rfl, Or.inr rfl, rfl⟩
set_option maxRecDepth 100000 in
theorem lk36_146 : xAt kT36 146 (.iastore) 147 := ⟨1, rfl, Or.inr rfl, rfl⟩
set_option maxRecDepth 100000 in
theorem lk36_147 : xAt kT36 147 (.aload_n 0) 148 := ⟨1, rfl, Or.inr rfl, rfl⟩
set_option maxRecDepth 100000 in
theorem lk36_148 : xAt kT36 148 (.iload 5) 150 := ⟨2, rfl, Or.inr rfl, rfl⟩
set_option maxRecDepth 100000 in
theorem lk36_150 : xAt kT36 150 (.invokevirtual 109) 153 := ⟨3, rfl, Or.inr rfl, rfl⟩
set_option maxRecDepth 100000 in
theorem lk36_153 : xAt kT36 153 (.iinc 5 1) 156 := ⟨3, rfl, Or.inr rfl, rfl⟩
set_option maxRecDepth 100000 in
theorem lk36_156 : xAt kT36 156 (.goto (-151)) 159 := ⟨3, rfl, Or.inr rfl, rfl⟩
set_option maxRecDepth 100000 in
theorem lk36_159 : xAt kT36 159 (.return_) 160 := ⟨1, rfl, Or.inr rfl, rfl⟩
set_option maxRecDepth 100000 in
theorem lk43_0 : xAt kT43 0 (.aload_n 0) 1 := ⟨1, rfl, Or.inr rfl, rfl⟩
set_option maxRecDepth 100000 in
theorem lk43_1 : xAt kT43 1 (.getfield 11) 4 := ⟨3, rfl, Or.inr rfl, rfl⟩
set_option maxRecDepth 100000 in
theorem lk43_4 : xAt kT43 4 (.iload_n 1) 5 := ⟨1, rfl, Or.inr rfl, rfl⟩
set_option maxRecDepth 100000 in
theorem lk43_5 : xAt kT43 5 (.aaload) 6 := ⟨1, rfl, Or.inr rfl, rfl⟩
set_option maxRecDepth 100000 in
theorem lk43_6 : xAt kT43 6 (.getfield 41) 9 := ⟨3, rfl, Or.inr rfl, rfl⟩
set_option maxRecDepth 100000 in
theorem lk43_9 : xAt kT43 9 (.ifCond .eq 20) 12 := ⟨3, rfl, Or.inr rfl, rfl⟩
set_option maxRecDepth 100000 in
theorem lk43_12 : xAt kT43 12 (.aload_n 0) 13 := ⟨1, rfl, Or.inr rfl, rfl⟩
set_option maxRecDepth 100000 in
theorem lk43_13 : xAt kT43 13 (.getfield 11) 16 := ⟨3, rfl, Or.inr rfl, rfl⟩
set_option maxRecDepth 100000 in
theorem lk43_16 : xAt kT43 16 (.iload_n 1) 17 := ⟨1, rfl, Or.inr rfl, rfl⟩
set_option maxRecDepth 100000 in
theorem lk43_17 : xAt kT43 17 (.aaload) 18 := ⟨1, rfl, Or.inr rfl, rfl⟩
set_option maxRecDepth 100000 in
theorem lk43_18 : xAt kT43 18 (.getfield 38) 21 := ⟨3, rfl, Or.inr rfl, rfl⟩
set_option maxRecDepth 100000 in
theorem lk43_21 : xAt kT43 21 (.iload_n 3) 22 := ⟨1, rfl, Or.inr rfl, rfl⟩
set_option maxRecDepth 100000 in
theorem lk43_22 : xAt kT43 22 (.if_icmp .lt 7) 25 := ⟨3, rfl, Or.inr rfl, rfl⟩
set_option maxRecDepth 100000 in
theorem lk43_25 : xAt kT43 25 (.iconst 1) 26 := ⟨1, rfl, Or.inr rfl, rfl⟩
set_option maxRecDepth 100000 in
theorem lk43_26 : xAt kT43 26 (.goto 4) 29 := ⟨3, rfl, Or.inr rfl, rfl⟩
set_option maxRecDepth 100000 in
theorem lk43_29 : xAt kT43 29 (.iconst 0) 30 := ⟨1, rfl, Or.inr rfl, rfl⟩
set_option maxRecDepth 100000 in
theorem lk43_30 : xAt kT43 30 (.istore 4) 32 := ⟨2, rfl, Or.inr rfl, rfl⟩
set_option maxRecDepth 100000 in
theorem lk43_32 : xAt kT43 32 (.aload_n 0) 33 := ⟨1, rfl, Or.inr rfl, rfl⟩
set_option maxRecDepth 100000 in
theorem lk43_33 : xAt kT43 33 (.getfield 11) 36 := ⟨3, rfl, Or.inr rfl, rfl⟩
set_option maxRecDepth 100000 in
theorem lk43_36 : xAt kT43 36 (.iload_n 2) 37 := ⟨1, rfl, Or.inr rfl, rfl⟩
set_option maxRecDepth 100000 in
theorem lk43_37 : xAt kT43 37 (.aaload) 38 := ⟨1, rfl, Or.inr rfl, rfl⟩
set_option maxRecDepth 100000 in
theorem lk43_38 : xAt kT43 38 (.getfield 41) 41 := ⟨3, rfl, Or.inr rfl, rfl⟩
set_option maxRecDepth 100000 in
theorem lk43_41 : xAt kT43 41 (.ifCond .eq 20) 44 := ⟨3, rfl, Or.inr rfl, rfl⟩
set_option maxRecDepth 100000 in
theorem lk43_44 : xAt kT43 44 (.aload_n 0) 45 := ⟨1, rfl, Or.inr rfl, rfl⟩
set_option maxRecDepth 100000 in
theorem lk43_45 : xAt kT43 45 (.getfield 11) 48 := ⟨3, rfl, Or.inr rfl, rfl⟩
set_option maxRecDepth 100000 in
theorem lk43_48 : xAt kT43 48 (.iload_n 2) 49 := ⟨1, rfl, Or.inr rfl, rfl⟩
set_option maxRecDepth 100000 in
theorem lk43_49 : xAt kT43 49 (.aaload) 50 := ⟨1, rfl, Or.inr rfl, rfl⟩
set_option maxRecDepth 100000 in
theorem lk43_50 : xAt kT43 50 (.getfield 38) 53 := ⟨3, rfl, Or.inr rfl, rfl⟩
set_option maxRecDepth 100000 in
theorem lk43_53 : xAt kT43 53 (.iload_n 3) 54 := ⟨1, rfl, Or.inr rfl, rfl⟩
set_option maxRecDepth 100000 in
theorem lk43_54 : xAt kT43 54 (.if_icmp .lt 7) 57 := ⟨3, rfl, Or.inr rfl, rfl⟩
set_option maxRecDepth 100000 in
theorem lk43_57 : xAt kT43 57 (.iconst 1) 58 := ⟨1, rfl, Or.inr rfl, rfl⟩
set_option maxRecDepth 100000 in
theorem lk43_58 : xAt kT43 58 (.goto 4) 61 := ⟨3, rfl, Or.inr rfl, rfl⟩
set_option maxRecDepth 100000 in
theorem lk43_61 : xAt kT43 61 (.iconst 0) 62 := ⟨1, rfl, Or.inr rfl, rfl⟩
set_option maxRecDepth 100000 in
theorem lk43_62 : xAt kT43 62 (.istore 5) 64 := ⟨2, rfl, Or.inr rfl, rfl⟩
set_option maxRecDepth 100000 in
theorem lk43_64 : xAt kT43 64 (.iload 4) 66 := ⟨2, rfl, Or.inr rfl, rfl⟩
set_option maxRecDepth 100000 in
theorem lk43_66 : xAt kT43 66 (.ifCond .eq 35) 69 := ⟨3, rfl, Or.inr rfl, rfl⟩
set_option maxRecDepth 100000 in
theorem lk43_69 : xAt kT43 69 (.iload 5) 71 := ⟨2, rfl, Or.inr rfl, rfl⟩
set_option maxRecDepth 100000 in
theorem lk43_71 : xAt kT43 71 (.ifCond .eq 30) 74 := ⟨3, rfl, Or.inr rfl, rfl⟩
set_option maxRecDepth 100000 in
theorem lk43_74 : xAt kT43 74 (.aload_n 0) 75 := ⟨1, rfl, Or.inr rfl, rfl⟩
set_option maxRecDepth 100000 in
theorem lk43_75 : xAt kT43 75 (.getfield 11) 78 := ⟨3, rfl, Or.inr rfl, rfl⟩
set_option maxRecDepth 100000 in
theorem lk43_78 : xAt kT43 78 (.iload_n 1) 79 := ⟨1, rfl, Or.inr rfl, rfl⟩
set_option maxRecDepth 100000 in
theorem lk43_79 : xAt kT43 79 (.aaload) 80 := ⟨1, rfl, Or.inr rfl, rfl⟩
set_option maxRecDepth 100000 in
theorem lk43_80 : xAt kT43 80 (.getfield 83) 83 := ⟨3, rfl, Or.inr rfl, rfl⟩
set_option maxRecDepth 100000 in
theorem lk43_83 : xAt kT43 83 (.aload_n 0) 84 := ⟨1, rfl, Or.inr rfl, rfl⟩
set_option maxRecDepth 100000 in
theorem lk43_84 : xAt kT43 84 (.getfield 11) 87 := ⟨3, rfl, Or.inr rfl, rfl⟩
set_option maxRecDepth 100000 in
theorem lk43_87 : xAt kT43 87 (.iload_n 2) 88 := ⟨1, rfl, Or.inr rfl, rfl⟩
set_option maxRecDepth 100000 in
theorem lk43_88 : xAt kT43 88 (.aaload) 89 := ⟨1, rfl, Or.inr rfl, rfl⟩
set_option maxRecDepth 100000 in
theorem lk43_89 : xAt kT43 89 (.getfield 83) 92 := ⟨3, rfl, Or.inr rfl, rfl⟩
set_option maxRecDepth 100000 in
theorem lk43_92 : xAt kT43 92 (.if_icmp .le 7) 95 := ⟨3, rfl, Or.inr rfl, rfl⟩
set_option maxRecDepth 100000 in
theorem lk43_95 : xAt kT43 95 (.iload_n 1) 96 := ⟨1, rfl, Or.inr rfl, rfl⟩
set_option maxRecDepth 100000 in
theorem lk43_96 : xAt kT43 96 (.goto 4) 99 := ⟨3, rfl, Or.inr rfl, rfl⟩
set_option maxRecDepth 100000 in
theorem lk43_99 : xAt kT43 99 (.iload_n 2) 100 := ⟨1, rfl, Or.inr rfl, rfl⟩
set_option maxRecDepth 100000 in
theorem lk43_100 : xAt kT43 100 (.ireturn) 101 := ⟨1, rfl, Or.inr rfl, rfl⟩
set_option maxRecDepth 100000 in
theorem lk43_101 : xAt kT43 101 (.iload 4) 103 := ⟨2, rfl, Or.inr rfl, rfl⟩
set_option maxRecDepth 100000 in
theorem lk43_103 : xAt kT43 103 (.ifCond .eq 7) 106 := ⟨3, rfl, Or.inr rfl, rfl⟩
set_option maxRecDepth 100000 in
theorem lk43_106 : xAt kT43 106 (.iload_n 1) 107 := ⟨1, rfl, Or.inr rfl, rfl⟩
set_option maxRecDepth 100000 in
theorem lk43_107 : xAt kT43 107 (.goto 13) 110 := ⟨3, rfl, Or.inr rfl, rfl⟩
set_option maxRecDepth 100000 in
theorem lk43_110 : xAt kT43 110 (.iload 5) 112 := ⟨2, rfl, Or.inr rfl, rfl⟩
set_option maxRecDepth 100000 in
theorem lk43_112 : xAt kT43 112 (.ifCond .eq 7) 115 := ⟨3, rfl, Or.inr rfl, rfl⟩
set_option maxRecDepth 100000 in
theorem lk43_115 : xAt kT43 115 (.iload_n 2) 116 := ⟨1, rfl, Or.inr rfl, rfl⟩
set_option maxRecDepth 100000 in
theorem lk43_116 : xAt kT43 116 (.goto 4) 119 := ⟨3, rfl, Or.inr rfl, rfl⟩
set_option maxRecDepth 100000 in
theorem lk43_119 : xAt kT43 119 (.iconst (-1)) 120 := ⟨1, rfl, Or.inr rfl, rfl⟩
set_option maxRecDepth 100000 in
theorem lk43_120 : xAt kT43 120 (.ireturn) 121 := ⟨1, rfl, Or.inr rfl, rfl⟩
set_option maxRecDepth 100000 in
theorem lk42_0 : xAt kT42 0 (.aload_n 0) 1 := ⟨1, rfl, Or.inr rfl, rfl⟩
set_option maxRecDepth 100000 in
theorem lk42_1 : xAt kT42 1 (.getfield 11) 4 := ⟨3, rfl, Or.inr rfl, rfl⟩
set_option maxRecDepth 100000 in
theorem lk42_4 : xAt kT42 4 (.iload_n 1) 5 := ⟨1, rfl, Or.inr rfl, rfl⟩
set_option maxRecDepth 100000 in
theorem lk42_5 : xAt kT42 5 (.aaload) 6 := ⟨1, rfl, Or.inr rfl, rfl⟩
set_option maxRecDepth 100000 in
theorem lk42_6 : xAt kT42 6 (.getfield 41) 9 := ⟨3, rfl, Or.inr rfl, rfl⟩
set_option maxRecDepth 100000 in
theorem lk42_9 : xAt kT42 9 (.ifCond .eq 21) 12 := ⟨3, rfl, Or.inr rfl, rfl⟩
set_option maxRecDepth 100000 in
theorem lk42_12 : xAt kT42 12 (.aload_n 0) 13 := ⟨1, rfl, Or.inr rfl, rfl⟩
set_option maxRecDepth 100000 in
theorem lk42_13 : xAt kT42 13 (.getfield 11) 16 := ⟨3, rfl, Or.inr rfl, rfl⟩
set_option maxRecDepth 100000 in
theorem lk42_16 : xAt kT42 16 (.iload_n 1) 17 := ⟨1, rfl, Or.inr rfl, rfl⟩
set_option maxRecDepth 100000 in
theorem lk42_17 : xAt kT42 17 (.aaload) 18 := ⟨1, rfl, Or.inr rfl, rfl⟩
set_option maxRecDepth 100000 in
theorem lk42_18 : xAt kT42 18 (.getfield 38) 21 := ⟨3, rfl, Or.inr rfl, rfl⟩
set_option maxRecDepth 100000 in
theorem lk42_21 : xAt kT42 21 (.bipush 24) 23 := ⟨2, rfl, Or.inr rfl, rfl⟩
set_option maxRecDepth 100000 in
theorem lk42_23 : xAt kT42 23 (.if_icmp .lt 7) 26 := ⟨3, rfl, Or.inr rfl, rfl⟩
set_option maxRecDepth 100000 in
theorem lk42_26 : xAt kT42 26 (.iconst 1) 27 := ⟨1, rfl, Or.inr rfl, rfl⟩
set_option maxRecDepth 100000 in
theorem lk42_27 : xAt kT42 27 (.goto 4) 30 := ⟨3, rfl, Or.inr rfl, rfl⟩
set_option maxRecDepth 100000 in
theorem lk42_30 : xAt kT42 30 (.iconst 0) 31 := ⟨1, rfl, Or.inr rfl, rfl⟩
set_option maxRecDepth 100000 in
theorem lk42_31 : xAt kT42 31 (.ireturn) 32 := ⟨1, rfl, Or.inr rfl, rfl⟩
set_option maxRecDepth 100000 in
theorem lk39_0 : xAt kT39 0 (.iconst (-1)) 1 := ⟨1, rfl, Or.inr rfl, rfl⟩
set_option maxRecDepth 100000 in
theorem lk39_1 : xAt kT39 1 (.istore_n 2) 2 := ⟨1, rfl, Or.inr rfl, rfl⟩
set_option maxRecDepth 100000 in
theorem lk39_2 : xAt kT39 2 (.iconst 4) 3 := ⟨1, rfl, Or.inr rfl, rfl⟩
set_option maxRecDepth 100000 in
theorem lk39_3 : xAt kT39 3 (.istore_n 3) 4 := ⟨1, rfl, Or.inr rfl, rfl⟩
set_option maxRecDepth 100000 in
theorem lk39_4 : xAt kT39 4 (.iload_n 3) 5 := ⟨1, rfl, Or.inr rfl, rfl⟩
set_option maxRecDepth 100000 in
theorem lk39_5 : xAt kT39 5 (.bipush 16) 7 := ⟨2, rfl, Or.inr rfl, rfl⟩
set_option maxRecDepth 100000 in
theorem lk39_7 : xAt kT39 7 (.if_icmp .ge 60) 10 := ⟨3, rfl, Or.inr rfl, rfl⟩
set_option maxRecDepth 100000 in
theorem lk39_10 : xAt kT39 10 (.aload_n 0) 11 := ⟨1, rfl, Or.inr rfl, rfl⟩
set_option maxRecDepth 100000 in
theorem lk39_11 : xAt kT39 11 (.iload_n 3) 12 := ⟨1, rfl, Or.inr rfl, rfl⟩
set_option maxRecDepth 100000 in
theorem lk39_12 : xAt kT39 12 (.invokevirtual 153) 15 := ⟨3, rfl, Or.inr rfl, rfl⟩
set_option maxRecDepth 100000 in
theorem lk39_15 : xAt kT39 15 (.ifCond .eq 46) 18 := ⟨3, rfl, Or.inr rfl, rfl⟩
set_option maxRecDepth 100000 in
theorem lk39_18 : xAt kT39 18 (.aload_n 0) 19 := ⟨1, rfl, Or.inr rfl, rfl⟩
set_option maxRecDepth 100000 in
theorem lk39_19 : xAt kT39 19 (.getfield 11) 22 := ⟨3, rfl, Or.inr rfl, rfl⟩
set_option maxRecDepth 100000 in
theorem lk39_22 : xAt kT39 22 (.iload_n 3) 23 := ⟨1, rfl, Or.inr rfl, rfl⟩
set_option maxRecDepth 100000 in
theorem lk39_23 : xAt kT39 23 (.aaload) 24 := ⟨1, rfl, Or.inr rfl, rfl⟩
set_option maxRecDepth 100000 in
theorem lk39_24 : xAt kT39 24 (.getfield 83) 27 := ⟨3, rfl, Or.inr rfl, rfl⟩
set_option maxRecDepth 100000 in
theorem lk39_27 : xAt kT39 27 (.iload_n 1) 28 := ⟨1, rfl, Or.inr rfl, rfl⟩
set_option maxRecDepth 100000 in
theorem lk39_28 : xAt kT39 28 (.iconst 1) 29 := ⟨1, rfl, Or.inr rfl, rfl⟩
set_option maxRecDepth 100000 in
theorem lk39_29 : xAt kT39 29 (.iadd) 30 := ⟨1, rfl, Or.inr rfl, rfl⟩
set_option maxRecDepth 100000 in
theorem lk39_30 : xAt kT39 30 (.if_icmp .gt 31) 33 := ⟨3, rfl, Or.inr rfl, rfl⟩
set_option maxRecDepth 100000 in
theorem lk39_33 : xAt kT39 33 (.iload_n 2) 34 := ⟨1, rfl, Or.inr rfl, rfl⟩
set_option maxRecDepth 100000 in
theorem lk39_34 : xAt kT39 34 (.iconst (-1)) 35 := ⟨1, rfl, Or.inr rfl, rfl⟩
set_option maxRecDepth 100000 in
theorem lk39_35 : xAt kT39 35 (.if_icmp .eq 24) 38 := ⟨3, rfl, Or.inr rfl, rfl⟩
set_option maxRecDepth 100000 in
theorem lk39_38 : xAt kT39 38 (.aload_n 0) 39 := ⟨1, rfl, Or.inr rfl, rfl⟩
set_option maxRecDepth 100000 in
theorem lk39_39 : xAt kT39 39 (.getfield 11) 42 := ⟨3, rfl, Or.inr rfl, rfl⟩
set_option maxRecDepth 100000 in
theorem lk39_42 : xAt kT39 42 (.iload_n 3) 43 := ⟨1, rfl, Or.inr rfl, rfl⟩
set_option maxRecDepth 100000 in
theorem lk39_43 : xAt kT39 43 (.aaload) 44 := ⟨1, rfl, Or.inr rfl, rfl⟩
set_option maxRecDepth 100000 in
theorem lk39_44 : xAt kT39 44 (.getfield 83) 47 := ⟨3, rfl, Or.inr rfl, rfl⟩
set_option maxRecDepth 100000 in
theorem lk39_47 : xAt kT39 47 (.aload_n 0) 48 := ⟨1, rfl, Or.inr rfl, rfl⟩
set_option maxRecDepth 100000 in
theorem lk39_48 : xAt kT39 48 (.getfield 11) 51 := ⟨3, rfl, Or.inr rfl, rfl⟩
set_option maxRecDepth 100000 in
theorem lk39_51 : xAt kT39 51 (.iload_n 2) 52 := ⟨1, rfl, Or.inr rfl, rfl⟩
set_option maxRecDepth 100000 in
theorem lk39_52 : xAt kT39 52 (.aaload) 53 := ⟨1, rfl, Or.inr rfl, rfl⟩
set_option maxRecDepth 100000 in
theorem lk39_53 : xAt kT39 53 (.getfield 83) 56 := ⟨3, rfl, Or.inr rfl, rfl⟩
set_option maxRecDepth 100000 in
theorem lk39_56 : xAt kT39 56 (.if_icmp .le 5) 59 := ⟨3, rfl, Or.inr rfl, rfl⟩
set_option maxRecDepth 100000 in
theorem lk39_59 : xAt kT39 59 (.iload_n 3) 60 := ⟨1, rfl, Or.inr rfl, rfl⟩
set_option maxRecDepth 100000 in
theorem lk39_60 : xAt kT39 60 (.istore_n 2) 61 := ⟨1, rfl, Or.inr rfl, rfl⟩
set_option maxRecDepth 100000 in
theorem lk39_61 : xAt kT39 61 (.iinc 3 1) 64 := ⟨3, rfl, Or.inr rfl, rfl⟩
set_option maxRecDepth 100000 in
theorem lk39_64 : xAt kT39 64 (.goto (-60)) 67 := ⟨3, rfl, Or.inr rfl, rfl⟩
set_option maxRecDepth 100000 in
theorem lk39_67 : xAt kT39 67 (.iload_n 2) 68 := ⟨1, rfl, Or.inr rfl, rfl⟩
set_option maxRecDepth 100000 in
theorem lk39_68 : xAt kT39 68 (.ireturn) 69 := ⟨1, rfl, Or.inr rfl, rfl⟩
set_option maxRecDepth 100000 in
theorem lk51_0 : xAt kT51 0 (.iload_n 1) 1 := ⟨1, rfl, Or.inr rfl, rfl⟩
set_option maxRecDepth 100000 in
theorem lk51_1 : xAt kT51 1 (.aload_n 0) 2 := ⟨1, rfl, Or.inr rfl, rfl⟩
set_option maxRecDepth 100000 in
theorem lk51_2 : xAt kT51 2 (.getfield 83) 5 := ⟨3, rfl, Or.inr rfl, rfl⟩
set_option maxRecDepth 100000 in
theorem lk51_5 : xAt kT51 5 (.isub) 6 := ⟨1, rfl, Or.inr rfl, rfl⟩
set_option maxRecDepth 100000 in
theorem lk51_6 : xAt kT51 6 (.istore_n 3) 7 := ⟨1, rfl, Or.inr rfl, rfl⟩
set_option maxRecDepth 100000 in
theorem lk51_7 : xAt kT51 7 (.iload_n 3) 8 := ⟨1, rfl, Or.inr rfl, rfl⟩
set_option maxRecDepth 100000 in
theorem lk51_8 : xAt kT51 8 (.iconst (-1)) 9 := ⟨1, rfl, Or.inr rfl, rfl⟩
set_option maxRecDepth 100000 in
theorem lk51_9 : xAt kT51 9 (.if_icmp .lt 11) 12 := ⟨3, rfl, Or.inr rfl, rfl⟩
set_option maxRecDepth 100000 in
theorem lk51_12 : xAt kT51 12 (.iload_n 3) 13 := ⟨1, rfl, Or.inr rfl, rfl⟩
set_option maxRecDepth 100000 in
theorem lk51_13 : xAt kT51 13 (.aload_n 0) 14 := ⟨1, rfl, Or.inr rfl, rfl⟩
set_option maxRecDepth 100000 in
theorem lk51_14 : xAt kT51 14 (.getfield 96) 17 := ⟨3, rfl, Or.inr rfl, rfl⟩
set_option maxRecDepth 100000 in
theorem lk51_17 : xAt kT51 17 (.if_icmp .lt 5) 20 := ⟨3, rfl, Or.inr rfl, rfl⟩
set_option maxRecDepth 100000 in
theorem lk51_20 : xAt kT51 20 (.iconst 0) 21 := ⟨1, rfl, Or.inr rfl, rfl⟩
set_option maxRecDepth 100000 in
theorem lk51_21 : xAt kT51 21 (.ireturn) 22 := ⟨1, rfl, Or.inr rfl, rfl⟩
set_option maxRecDepth 100000 in
theorem lk51_22 : xAt kT51 22 (.iload_n 2) 23 := ⟨1, rfl, Or.inr rfl, rfl⟩
set_option maxRecDepth 100000 in
theorem lk51_23 : xAt kT51 23 (.iload_n 3) 24 := ⟨1, rfl, Or.inr rfl, rfl⟩
set_option maxRecDepth 100000 in
theorem lk51_24 : xAt kT51 24 (.ifCond .ge 10) 27 := ⟨3, rfl, Or.inr rfl, rfl⟩
set_option maxRecDepth 100000 in
theorem lk51_27 : xAt kT51 27 (.aload_n 0) 28 := ⟨1, rfl, Or.inr rfl, rfl⟩
set_option maxRecDepth 100000 in
theorem lk51_28 : xAt kT51 28 (.getfield 136) 31 := ⟨3, rfl, Or.inr rfl, rfl⟩
set_option maxRecDepth 100000 in
theorem lk51_31 : xAt kT51 31 (.goto 14) 34 := ⟨3, rfl, Or.inr rfl, rfl⟩
set_option maxRecDepth 100000 in
theorem lk51_34 : xAt kT51 34 (.aload_n 0) 35 := ⟨1, rfl, Or.inr rfl, rfl⟩
set_option maxRecDepth 100000 in
theorem lk51_35 : xAt kT51 35 (.getfield 156) 38 := ⟨3, rfl, Or.inr rfl, rfl⟩
set_option maxRecDepth 100000 in
theorem lk51_38 : xAt kT51 38 (.iload_n 3) 39 := ⟨1, rfl, Or.inr rfl, rfl⟩
set_option maxRecDepth 100000 in
theorem lk51_39 : xAt kT51 39 (.bipush 6) 41 := ⟨2, rfl, Or.inr rfl, rfl⟩
set_option maxRecDepth 100000 in
theorem lk51_41 : xAt kT51 41 (.imul) 42 := ⟨1, rfl, Or.inr rfl, rfl⟩
set_option maxRecDepth 100000 in
theorem lk51_42 : xAt kT51 42 (.iconst 0) 43 := ⟨1, rfl, Or.inr rfl, rfl⟩
set_option maxRecDepth 100000 in
theorem lk51_43 : xAt kT51 43 (.iadd) 44 := ⟨1, rfl, Or.inr rfl, rfl⟩
set_option maxRecDepth 100000 in
theorem lk51_44 : xAt kT51 44 (.iaload) 45 := ⟨1, rfl, Or.inr rfl, rfl⟩
set_option maxRecDepth 100000 in
theorem lk51_45 : xAt kT51 45 (.if_icmp .ne 7) 48 := ⟨3, rfl, Or.inr rfl, rfl⟩
set_option maxRecDepth 100000 in
theorem lk51_48 : xAt kT51 48 (.iconst 1) 49 := ⟨1, rfl, Or.inr rfl, rfl⟩
set_option maxRecDepth 100000 in
theorem lk51_49 : xAt kT51 49 (.goto 4) 52 := ⟨3, rfl, Or.inr rfl, rfl⟩
set_option maxRecDepth 100000 in
theorem lk51_52 : xAt kT51 52 (.iconst 0) 53 := ⟨1, rfl, Or.inr rfl, rfl⟩
set_option maxRecDepth 100000 in
theorem lk51_53 : xAt kT51 53 (.ireturn) 54 := ⟨1, rfl, Or.inr rfl, rfl⟩
set_option maxRecDepth 100000 in
theorem lk109_0 : xAt kT109 0 (.aload_n 0) 1 := ⟨1, rfl, Or.inr rfl, rfl⟩
set_option maxRecDepth 100000 in
theorem lk109_1 : xAt kT109 1 (.getfield 39) 4 := ⟨3, rfl, Or.inr rfl, rfl⟩
set_option maxRecDepth 100000 in
theorem lk109_4 : xAt kT109 4 (.ifCond .le 22) 7 := ⟨3, rfl, Or.inr rfl, rfl⟩
set_option maxRecDepth 100000 in
theorem lk109_7 : xAt kT109 7 (.aload_n 0) 8 := ⟨1, rfl, Or.inr rfl, rfl⟩
set_option maxRecDepth 100000 in
theorem lk109_8 : xAt kT109 8 (.getfield 9) 11 := ⟨3, rfl, Or.inr rfl, rfl⟩
set_option maxRecDepth 100000 in
theorem lk109_11 : xAt kT109 11 (.aload_n 0) 12 := ⟨1, rfl, Or.inr rfl, rfl⟩
set_option maxRecDepth 100000 in
theorem lk109_12 : xAt kT109 12 (.getfield 39) 15 := ⟨3, rfl, Or.inr rfl, rfl⟩
set_option maxRecDepth 100000 in
theorem lk109_15 : xAt kT109 15 (.iconst 1) 16 := ⟨1, rfl, Or.inr rfl, rfl⟩
set_option maxRecDepth 100000 in
theorem lk109_16 : xAt kT109 16 (.isub) 17 := ⟨1, rfl, Or.inr rfl, rfl⟩
set_option maxRecDepth 100000 in
theorem lk109_17 : xAt kT109 17 (.bipush 6) 19 := ⟨2, rfl, Or.inr rfl, rfl⟩
set_option maxRecDepth 100000 in
theorem lk109_19 : xAt kT109 19 (.imul) 20 := ⟨1, rfl, Or.inr rfl, rfl⟩
set_option maxRecDepth 100000 in
theorem lk109_20 : xAt kT109 20 (.iconst 0) 21 := ⟨1, rfl, Or.inr rfl, rfl⟩
set_option maxRecDepth 100000 in
theorem lk109_21 : xAt kT109 21 (.iadd) 22 := ⟨1, rfl, Or.inr rfl, rfl⟩
set_option maxRecDepth 100000 in
theorem lk109_22 : xAt kT109 22 (.iaload) 23 := ⟨1, rfl, Or.inr rfl, rfl⟩
set_option maxRecDepth 100000 in
theorem lk109_23 : xAt kT109 23 (.goto 7) 26 := ⟨3, rfl, Or.inr rfl, rfl⟩
set_option maxRecDepth 100000 in
theorem lk109_26 : xAt kT109 26 (.aload_n 0) 27 := ⟨1, rfl, Or.inr rfl, rfl⟩
set_option maxRecDepth 100000 in
theorem lk109_27 : xAt kT109 27 (.getfield 33) 30 := ⟨3, rfl, Or.inr rfl, rfl⟩
set_option maxRecDepth 100000 in
theorem lk109_30 : xAt kT109 30 (.ireturn) 31 := ⟨1, rfl, Or.inr rfl, rfl⟩
set_option maxRecDepth 100000 in
theorem lk46_0 : xAt kT46 0 (.iconst 4) 1 := ⟨1, rfl, Or.inr rfl, rfl⟩
set_option maxRecDepth 100000 in
theorem lk46_1 : xAt kT46 1 (.istore_n 3) 2 := ⟨1, rfl, Or.inr rfl, rfl⟩
set_option maxRecDepth 100000 in
theorem lk46_2 : xAt kT46 2 (.iload_n 3) 3 := ⟨1, rfl, Or.inr rfl, rfl⟩
set_option maxRecDepth 100000 in
theorem lk46_3 : xAt kT46 3 (.bipush 16) 5 := ⟨2, rfl, Or.inr rfl, rfl⟩
set_option maxRecDepth 100000 in
theorem lk46_5 : xAt kT46 5 (.if_icmp .ge 45) 8 := ⟨3, rfl, Or.inr rfl, rfl⟩
set_option maxRecDepth 100000 in
theorem lk46_8 : xAt kT46 8 (.aload_n 0) 9 := ⟨1, rfl, Or.inr rfl, rfl⟩
set_option maxRecDepth 100000 in
theorem lk46_9 : xAt kT46 9 (.iload_n 3) 10 := ⟨1, rfl, Or.inr rfl, rfl⟩
set_option maxRecDepth 100000 in
theorem lk46_10 : xAt kT46 10 (.invokevirtual 153) 13 := ⟨3, rfl, Or.inr rfl, rfl⟩
set_option maxRecDepth 100000 in
theorem lk46_13 : xAt kT46 13 (.ifCond .eq 31) 16 := ⟨3, rfl, Or.inr rfl, rfl⟩
set_option maxRecDepth 100000 in
theorem lk46_16 : xAt kT46 16 (.aload_n 0) 17 := ⟨1, rfl, Or.inr rfl, rfl⟩
set_option maxRecDepth 100000 in
theorem lk46_17 : xAt kT46 17 (.getfield 11) 20 := ⟨3, rfl, Or.inr rfl, rfl⟩
set_option maxRecDepth 100000 in
theorem lk46_20 : xAt kT46 20 (.iload_n 3) 21 := ⟨1, rfl, Or.inr rfl, rfl⟩
set_option maxRecDepth 100000 in
theorem lk46_21 : xAt kT46 21 (.aaload) 22 := ⟨1, rfl, Or.inr rfl, rfl⟩
set_option maxRecDepth 100000 in
theorem lk46_22 : xAt kT46 22 (.getfield 83) 25 := ⟨3, rfl, Or.inr rfl, rfl⟩
set_option maxRecDepth 100000 in
theorem lk46_25 : xAt kT46 25 (.iload_n 1) 26 := ⟨1, rfl, Or.inr rfl, rfl⟩
set_option maxRecDepth 100000 in
theorem lk46_26 : xAt kT46 26 (.if_icmp .ne 18) 29 := ⟨3, rfl, Or.inr rfl, rfl⟩
set_option maxRecDepth 100000 in
theorem lk46_29 : xAt kT46 29 (.aload_n 0) 30 := ⟨1, rfl, Or.inr rfl, rfl⟩
set_option maxRecDepth 100000 in
theorem lk46_30 : xAt kT46 30 (.getfield 11) 33 := ⟨3, rfl, Or.inr rfl, rfl⟩
set_option maxRecDepth 100000 in
theorem lk46_33 : xAt kT46 33 (.iload_n 3) 34 := ⟨1, rfl, Or.inr rfl, rfl⟩
set_option maxRecDepth 100000 in
theorem lk46_34 : xAt kT46 34 (.aaload) 35 := ⟨1, rfl, Or.inr rfl, rfl⟩
set_option maxRecDepth 100000 in
theorem lk46_35 : xAt kT46 35 (.getfield 136) 38 := ⟨3, rfl, Or.inr rfl, rfl⟩
set_option maxRecDepth 100000 in
theorem lk46_38 : xAt kT46 38 (.iload_n 2) 39 := ⟨1, rfl, Or.inr rfl, rfl⟩
set_option maxRecDepth 100000 in
theorem lk46_39 : xAt kT46 39 (.if_icmp .ne 5) 42 := ⟨3, rfl, Or.inr rfl, rfl⟩
set_option maxRecDepth 100000 in
theorem lk46_42 : xAt kT46 42 (.iload_n 3) 43 := ⟨1, rfl, Or.inr rfl, rfl⟩
set_option maxRecDepth 100000 in
theorem lk46_43 : xAt kT46 43 (.ireturn) 44 := ⟨1, rfl, Or.inr rfl, rfl⟩
set_option maxRecDepth 100000 in
theorem lk46_44 : xAt kT46 44 (.iinc 3 1) 47 := ⟨3, rfl, Or.inr rfl, rfl⟩
set_option maxRecDepth 100000 in
theorem lk46_47 : xAt kT46 47 (.goto (-45)) 50 := ⟨3, rfl, Or.inr rfl, rfl⟩
set_option maxRecDepth 100000 in
theorem lk46_50 : xAt kT46 50 (.iconst (-1)) 51 := ⟨1, rfl, Or.inr rfl, rfl⟩
set_option maxRecDepth 100000 in
theorem lk46_51 : xAt kT46 51 (.ireturn) 52 := ⟨1, rfl, Or.inr rfl, rfl⟩
set_option maxRecDepth 100000 in
theorem lk38_0 : xAt kT38 0 (.aload_n 0) 1 := ⟨1, rfl, Or.inr rfl, rfl⟩
set_option maxRecDepth 100000 in
theorem lk38_1 : xAt kT38 1 (.iconst 0) 2 := ⟨1, rfl, Or.inr rfl, rfl⟩
set_option maxRecDepth 100000 in
theorem lk38_2 : xAt kT38 2 (.putfield 72) 5 := ⟨3, rfl, Or.inr rfl, rfl⟩
set_option maxRecDepth 100000 in
theorem lk38_5 : xAt kT38 5 (.aload_n 0) 6 := ⟨1, rfl, Or.inr rfl, rfl⟩
set_option maxRecDepth 100000 in
theorem lk38_6 : xAt kT38 6 (.getfield 34) 9 := ⟨3, rfl, Or.inr rfl, rfl⟩
set_option maxRecDepth 100000 in
theorem lk38_9 : xAt kT38 9 (.iconst (-1)) 10 := ⟨1, rfl, Or.inr rfl, rfl⟩
set_option maxRecDepth 100000 in
theorem lk38_10 : xAt kT38 10 (.if_icmp .ne 7) 13 := ⟨3, rfl, Or.inr rfl, rfl⟩
set_option maxRecDepth 100000 in
theorem lk38_13 : xAt kT38 13 (.iconst 0) 14 := ⟨1, rfl, Or.inr rfl, rfl⟩
set_option maxRecDepth 100000 in
theorem lk38_14 : xAt kT38 14 (.goto 15) 17 := ⟨3, rfl, Or.inr rfl, rfl⟩
set_option maxRecDepth 100000 in
theorem lk38_17 : xAt kT38 17 (.aload_n 0) 18 := ⟨1, rfl, Or.inr rfl, rfl⟩
set_option maxRecDepth 100000 in
theorem lk38_18 : xAt kT38 18 (.getfield 11) 21 := ⟨3, rfl, Or.inr rfl, rfl⟩
set_option maxRecDepth 100000 in
theorem lk38_21 : xAt kT38 21 (.aload_n 0) 22 := ⟨1, rfl, Or.inr rfl, rfl⟩
set_option maxRecDepth 100000 in
theorem lk38_22 : xAt kT38 22 (.getfield 34) 25 := ⟨3, rfl, Or.inr rfl, rfl⟩
set_option maxRecDepth 100000 in
theorem lk38_25 : xAt kT38 25 (.aaload) 26 := ⟨1, rfl, Or.inr rfl, rfl⟩
set_option maxRecDepth 100000 in
theorem lk38_26 : xAt kT38 26 (.getfield 83) 29 := ⟨3, rfl, Or.inr rfl, rfl⟩
set_option maxRecDepth 100000 in
theorem lk38_29 : xAt kT38 29 (.istore_n 1) 30 := ⟨1, rfl, Or.inr rfl, rfl⟩
set_option maxRecDepth 100000 in
theorem lk38_30 : xAt kT38 30 (.aload_n 0) 31 := ⟨1, rfl, Or.inr rfl, rfl⟩
set_option maxRecDepth 100000 in
theorem lk38_31 : xAt kT38 31 (.getfield 34) 34 := ⟨3, rfl, Or.inr rfl, rfl⟩
set_option maxRecDepth 100000 in
theorem lk38_34 : xAt kT38 34 (.iconst (-1)) 35 := ⟨1, rfl, Or.inr rfl, rfl⟩
set_option maxRecDepth 100000 in
theorem lk38_35 : xAt kT38 35 (.if_icmp .ne 7) 38 := ⟨3, rfl, Or.inr rfl, rfl⟩
set_option maxRecDepth 100000 in
theorem lk38_38 : xAt kT38 38 (.iconst 0) 39 := ⟨1, rfl, Or.inr rfl, rfl⟩
set_option maxRecDepth 100000 in
theorem lk38_39 : xAt kT38 39 (.goto 15) 42 := ⟨3, rfl, Or.inr rfl, rfl⟩
set_option maxRecDepth 100000 in
theorem lk38_42 : xAt kT38 42 (.aload_n 0) 43 := ⟨1, rfl, Or.inr rfl, rfl⟩
set_option maxRecDepth 100000 in
theorem lk38_43 : xAt kT38 43 (.getfield 11) 46 := ⟨3, rfl, Or.inr rfl, rfl⟩
set_option maxRecDepth 100000 in
theorem lk38_46 : xAt kT38 46 (.aload_n 0) 47 := ⟨1, rfl, Or.inr rfl, rfl⟩
set_option maxRecDepth 100000 in
theorem lk38_47 : xAt kT38 47 (.getfield 34) 50 := ⟨3, rfl, Or.inr rfl, rfl⟩
set_option maxRecDepth 100000 in
theorem lk38_50 : xAt kT38 50 (.aaload) 51 := ⟨1, rfl, Or.inr rfl, rfl⟩
set_option maxRecDepth 100000 in
theorem lk38_51 : xAt kT38 51 (.getfield 136) 54 := ⟨3, rfl, Or.inr rfl, rfl⟩
set_option maxRecDepth 100000 in
theorem lk38_54 : xAt kT38 54 (.istore_n 2) 55 := ⟨1, rfl, Or.inr rfl, rfl⟩
set_option maxRecDepth 100000 in
theorem lk38_55 : xAt kT38 55 (.aload_n 0) 56 := ⟨1, rfl, Or.inr rfl, rfl⟩
set_option maxRecDepth 100000 in
theorem lk38_56 : xAt kT38 56 (.iload_n 1) 57 := ⟨1, rfl, Or.inr rfl, rfl⟩
set_option maxRecDepth 100000 in
theorem lk38_57 : xAt kT38 57 (.invokevirtual 139) 60 := ⟨3, rfl, Or.inr rfl, rfl⟩
set_option maxRecDepth 100000 in
theorem lk38_60 : xAt kT38 60 (.istore_n 3) 61 := ⟨1, rfl, Or.inr rfl, rfl⟩
set_option maxRecDepth 100000 in
theorem lk38_61 : xAt kT38 61 (.iload_n 3) 62 := ⟨1, rfl, Or.inr rfl, rfl⟩
set_option maxRecDepth 100000 in
theorem lk38_62 : xAt kT38 62 (.iconst (-1)) 63 := ⟨1, rfl, Or.inr rfl, rfl⟩
set_option maxRecDepth 100000 in
theorem lk38_63 : xAt kT38 63 (.if_icmp .eq 17) 66 := ⟨3, rfl, Or.inr rfl, rfl⟩
set_option maxRecDepth 100000 in
theorem lk38_66 : xAt kT38 66 (.aload_n 0) 67 := ⟨1, rfl, Or.inr rfl, rfl⟩
set_option maxRecDepth 100000 in
theorem lk38_67 : xAt kT38 67 (.getfield 11) 70 := ⟨3, rfl, Or.inr rfl, rfl⟩
set_option maxRecDepth 100000 in
theorem lk38_70 : xAt kT38 70 (.iload_n 3) 71 := ⟨1, rfl, Or.inr rfl, rfl⟩
set_option maxRecDepth 100000 in
theorem lk38_71 : xAt kT38 71 (.aaload) 72 := ⟨1, rfl, Or.inr rfl, rfl⟩
set_option maxRecDepth 100000 in
theorem lk38_72 : xAt kT38 72 (.iload_n 1) 73 := ⟨1, rfl, Or.inr rfl, rfl⟩
set_option maxRecDepth 100000 in
theorem lk38_73 : xAt kT38 73 (.iload_n 2) 74 := ⟨1, rfl, Or.inr rfl, rfl⟩
set_option maxRecDepth 100000 in
theorem lk38_74 : xAt kT38 74 (.invokestatic 142) 77 := ⟨3, rfl, Or.inr rfl, rfl⟩
set_option maxRecDepth 100000 in
theorem lk38_77 : xAt kT38 77 (.ifCond .ne 4) 80 := ⟨3, rfl, Or.inr rfl, rfl⟩
set_option maxRecDepth 100000 in
theorem lk38_80 : xAt kT38 80 (.return_) 81 := ⟨1, rfl, Or.inr rfl, rfl⟩
set_option maxRecDepth 100000 in
theorem lk38_81 : xAt kT38 81 (.iload_n 3) 82 := ⟨1, rfl, Or.inr rfl, rfl⟩
set_option maxRecDepth 100000 in
theorem lk38_82 : xAt kT38 82 (.iconst (-1)) 83 := ⟨1, rfl, Or.inr rfl, rfl⟩
set_option maxRecDepth 100000 in
theorem lk38_83 : xAt kT38 83 (.if_icmp .eq 76) 86 := ⟨3, rfl, Or.inr rfl, rfl⟩
set_option maxRecDepth 100000 in
theorem lk38_86 : xAt kT38 86 (.aload_n 0) 87 := ⟨1, rfl, Or.inr rfl, rfl⟩
set_option maxRecDepth 100000 in
theorem lk38_87 : xAt kT38 87 (.getfield 72) 90 := ⟨3, rfl, Or.inr rfl, rfl⟩
set_option maxRecDepth 100000 in
theorem lk38_90 : xAt kT38 90 (.bipush 16) 92 := ⟨2, rfl, Or.inr rfl, rfl⟩
set_option maxRecDepth 100000 in
theorem lk38_92 : xAt kT38 92 (.if_icmp .ge 67) 95 := ⟨3, rfl, Or.inr rfl, rfl⟩
set_option maxRecDepth 100000 in
theorem lk38_95 : xAt kT38 95 (.aload_n 0) 96 := ⟨1, rfl, Or.inr rfl, rfl⟩
set_option maxRecDepth 100000 in
theorem lk38_96 : xAt kT38 96 (.getfield 27) 99 := ⟨3, rfl, Or.inr rfl, rfl⟩
set_option maxRecDepth 100000 in
theorem lk38_99 : xAt kT38 99 (.aload_n 0) 100 := ⟨1, rfl, Or.inr rfl, rfl⟩
set_option maxRecDepth 100000 in
theorem lk38_100 : xAt kT38 100 (.getfield 72) 103 := ⟨3, rfl, Or.inr rfl, rfl⟩
set_option maxRecDepth 100000 in
theorem lk38_103 : xAt kT38 103 (.iload_n 3) 104 := ⟨1, rfl, Or.inr rfl, rfl⟩
set_option maxRecDepth 100000 in
theorem lk38_104 : xAt kT38 104 (.iastore) 105 := ⟨1, rfl, Or.inr rfl, rfl⟩
set_option maxRecDepth 100000 in
theorem lk38_105 : xAt kT38 105 (.aload_n 0) 106 := ⟨1, rfl, Or.inr rfl, rfl⟩
set_option maxRecDepth 100000 in
theorem lk38_106 : xAt kT38 106 (.dup) 107 := ⟨1, rfl, Or.inr rfl, rfl⟩
set_option maxRecDepth 100000 in
theorem lk38_107 : xAt kT38 107 (.getfield 72) 110 := ⟨3, rfl, Or.inr rfl, rfl⟩
set_option maxRecDepth 100000 in
theorem lk38_110 : xAt kT38 110 (.iconst 1) 111 := ⟨1, rfl, Or.inr rfl, rfl⟩
set_option maxRecDepth 100000 in
theorem lk38_111 : xAt kT38 111 (.iadd) 112 := ⟨1, rfl, Or.inr rfl, rfl⟩
set_option maxRecDepth 100000 in
theorem lk38_112 : xAt kT38 112 (.putfield 72) 115 := ⟨3, rfl, Or.inr rfl, rfl⟩
set_option maxRecDepth 100000 in
theorem lk38_115 : xAt kT38 115 (.aload_n 0) 116 := ⟨1, rfl, Or.inr rfl, rfl⟩
set_option maxRecDepth 100000 in
theorem lk38_116 : xAt kT38 116 (.getfield 11) 119 := ⟨3, rfl, Or.inr rfl, rfl⟩
set_option maxRecDepth 100000 in
theorem lk38_119 : xAt kT38 119 (.iload_n 3) 120 := ⟨1, rfl, Or.inr rfl, rfl⟩
set_option maxRecDepth 100000 in
theorem lk38_120 : xAt kT38 120 (.aaload) 121 := ⟨1, rfl, Or.inr rfl, rfl⟩
set_option maxRecDepth 100000 in
theorem lk38_121 : xAt kT38 121 (.astore 4) 123 := ⟨2, rfl, Or.inr rfl, rfl⟩
set_option maxRecDepth 100000 in
theorem lk38_123 : xAt kT38 123 (.aload 4) 125 := ⟨2, rfl, Or.inr rfl, rfl⟩
set_option maxRecDepth 100000 in
theorem lk38_125 : xAt kT38 125 (.getfield 96) 128 := ⟨3, rfl, Or.inr rfl, rfl⟩
set_option maxRecDepth 100000 in
theorem lk38_128 : xAt kT38 128 (.ifCond .ne 7) 131 := ⟨3, rfl, Or.inr rfl, rfl⟩
set_option maxRecDepth 100000 in
theorem lk38_131 : xAt kT38 131 (.iconst (-1)) 132 := ⟨1, rfl, Or.inr rfl, rfl⟩
set_option maxRecDepth 100000 in
theorem lk38_132 : xAt kT38 132 (.goto 23) 135 := ⟨3, rfl, Or.inr rfl, rfl⟩
set_option maxRecDepth 100000 in
theorem lk38_135 : xAt kT38 135 (.aload_n 0) 136 := ⟨1, rfl, Or.inr rfl, rfl⟩
set_option maxRecDepth 100000 in
theorem lk38_136 : xAt kT38 136 (.aload 4) 138 := ⟨2, rfl, Or.inr rfl, rfl⟩
set_option maxRecDepth 100000 in
theorem lk38_138 : xAt kT38 138 (.getfield 83) 141 := ⟨3, rfl, Or.inr rfl, rfl⟩
set_option maxRecDepth 100000 in
theorem lk38_141 : xAt kT38 141 (.aload 4) 143 := ⟨2, rfl, Or.inr rfl, rfl⟩
set_option maxRecDepth 100000 in
theorem lk38_143 : xAt kT38 143 (.getfield 96) 146 := ⟨3, rfl, Or.inr rfl, rfl⟩
set_option maxRecDepth 100000 in
theorem lk38_146 : xAt kT38 146 (.iadd) 147 := ⟨1, rfl, Or.inr rfl, rfl⟩
set_option maxRecDepth 100000 in
theorem lk38_147 : xAt kT38 147 (.aload 4) 149 := ⟨2, rfl, Or.inr rfl, rfl⟩
set_option maxRecDepth 100000 in
theorem lk38_149 : xAt kT38 149 (.invokevirtual 146) 152 := ⟨3, rfl, Or.inr rfl, rfl⟩
set_option maxRecDepth 100000 in
theorem lk38_152 : xAt kT38 152 (.invokevirtual 150) 155 := ⟨3, rfl, Or.inr rfl, rfl⟩
set_option maxRecDepth 100000 in
theorem lk38_155 : xAt kT38 155 (.istore_n 3) 156 := ⟨1, rfl, Or.inr rfl, rfl⟩
set_option maxRecDepth 100000 in
theorem lk38_156 : xAt kT38 156 (.goto (-75)) 159 := ⟨3, rfl, Or.inr rfl, rfl⟩
set_option maxRecDepth 100000 in
theorem lk38_159 : xAt kT38 159 (.return_) 160 := ⟨1, rfl, Or.inr rfl, rfl⟩
set_option maxRecDepth 100000 in
theorem lk41_0 : xAt kT41 0 (.iconst 0) 1 := ⟨1, rfl, Or.inr rfl, rfl⟩
set_option maxRecDepth 100000 in
theorem lk41_1 : xAt kT41 1 (.istore_n 2) 2 := ⟨1, rfl, Or.inr rfl, rfl⟩
set_option maxRecDepth 100000 in
theorem lk41_2 : xAt kT41 2 (.iload_n 2) 3 := ⟨1, rfl, Or.inr rfl, rfl⟩
set_option maxRecDepth 100000 in
theorem lk41_3 : xAt kT41 3 (.aload_n 0) 4 := ⟨1, rfl, Or.inr rfl, rfl⟩
set_option maxRecDepth 100000 in
theorem lk41_4 : xAt kT41 4 (.getfield 72) 7 := ⟨3, rfl, Or.inr rfl, rfl⟩
set_option maxRecDepth 100000 in
theorem lk41_7 : xAt kT41 7 (.if_icmp .ge 21) 10 := ⟨3, rfl, Or.inr rfl, rfl⟩
set_option maxRecDepth 100000 in
theorem lk41_10 : xAt kT41 10 (.aload_n 0) 11 := ⟨1, rfl, Or.inr rfl, rfl⟩
set_option maxRecDepth 100000 in
theorem lk41_11 : xAt kT41 11 (.getfield 27) 14 := ⟨3, rfl, Or.inr rfl, rfl⟩
set_option maxRecDepth 100000 in
theorem lk41_14 : xAt kT41 14 (.iload_n 2) 15 := ⟨1, rfl, Or.inr rfl, rfl⟩
set_option maxRecDepth 100000 in
theorem lk41_15 : xAt kT41 15 (.iaload) 16 := ⟨1, rfl, Or.inr rfl, rfl⟩
set_option maxRecDepth 100000 in
theorem lk41_16 : xAt kT41 16 (.iload_n 1) 17 := ⟨1, rfl, Or.inr rfl, rfl⟩
set_option maxRecDepth 100000 in
theorem lk41_17 : xAt kT41 17 (.if_icmp .ne 5) 20 := ⟨3, rfl, Or.inr rfl, rfl⟩
set_option maxRecDepth 100000 in
theorem lk41_20 : xAt kT41 20 (.iconst 1) 21 := ⟨1, rfl, Or.inr rfl, rfl⟩
set_option maxRecDepth 100000 in
theorem lk41_21 : xAt kT41 21 (.ireturn) 22 := ⟨1, rfl, Or.inr rfl, rfl⟩
set_option maxRecDepth 100000 in
theorem lk41_22 : xAt kT41 22 (.iinc 2 1) 25 := ⟨3, rfl, Or.inr rfl, rfl⟩
set_option maxRecDepth 100000 in
theorem lk41_25 : xAt kT41 25 (.goto (-23)) 28 := ⟨3, rfl, Or.inr rfl, rfl⟩
set_option maxRecDepth 100000 in
theorem lk41_28 : xAt kT41 28 (.iconst 0) 29 := ⟨1, rfl, Or.inr rfl, rfl⟩
set_option maxRecDepth 100000 in
theorem lk41_29 : xAt kT41 29 (.ireturn) 30 := ⟨1, rfl, Or.inr rfl, rfl⟩
set_option maxRecDepth 100000 in
theorem lk37_0 : xAt kT37 0 (.aload_n 0) 1 := ⟨1, rfl, Or.inr rfl, rfl⟩
set_option maxRecDepth 100000 in
theorem lk37_1 : xAt kT37 1 (.aload_n 0) 2 := ⟨1, rfl, Or.inr rfl, rfl⟩
set_option maxRecDepth 100000 in
theorem lk37_2 : xAt kT37 2 (.iconst 0) 3 := ⟨1, rfl, Or.inr rfl, rfl⟩
set_option maxRecDepth 100000 in
theorem lk37_3 : xAt kT37 3 (.iconst 1) 4 := ⟨1, rfl, Or.inr rfl, rfl⟩
set_option maxRecDepth 100000 in
theorem lk37_4 : xAt kT37 4 (.bipush 32) 6 := ⟨2, rfl, Or.inr rfl, rfl⟩
set_option maxRecDepth 100000 in
theorem lk37_6 : xAt kT37 6 (.invokevirtual 125) 9 := ⟨3, rfl, Or.inr rfl, rfl⟩
set_option maxRecDepth 100000 in
theorem lk37_9 : xAt kT37 9 (.putfield 30) 12 := ⟨3, rfl, Or.inr rfl, rfl⟩
set_option maxRecDepth 100000 in
theorem lk37_12 : xAt kT37 12 (.aload_n 0) 13 := ⟨1, rfl, Or.inr rfl, rfl⟩
set_option maxRecDepth 100000 in
theorem lk37_13 : xAt kT37 13 (.aload_n 0) 14 := ⟨1, rfl, Or.inr rfl, rfl⟩
set_option maxRecDepth 100000 in
theorem lk37_14 : xAt kT37 14 (.iconst 2) 15 := ⟨1, rfl, Or.inr rfl, rfl⟩
set_option maxRecDepth 100000 in
theorem lk37_15 : xAt kT37 15 (.iconst 3) 16 := ⟨1, rfl, Or.inr rfl, rfl⟩
set_option maxRecDepth 100000 in
theorem lk37_16 : xAt kT37 16 (.bipush 20) 18 := ⟨2, rfl, Or.inr rfl, rfl⟩
set_option maxRecDepth 100000 in
theorem lk37_18 : xAt kT37 18 (.invokevirtual 125) 21 := ⟨3, rfl, Or.inr rfl, rfl⟩
set_option maxRecDepth 100000 in
theorem lk37_21 : xAt kT37 21 (.putfield 34) 24 := ⟨3, rfl, Or.inr rfl, rfl⟩
set_option maxRecDepth 100000 in
theorem lk37_24 : xAt kT37 24 (.aload_n 0) 25 := ⟨1, rfl, Or.inr rfl, rfl⟩
set_option maxRecDepth 100000 in
theorem lk37_25 : xAt kT37 25 (.iconst 0) 26 := ⟨1, rfl, Or.inr rfl, rfl⟩
set_option maxRecDepth 100000 in
theorem lk37_26 : xAt kT37 26 (.putfield 45) 29 := ⟨3, rfl, Or.inr rfl, rfl⟩
set_option maxRecDepth 100000 in
theorem lk37_29 : xAt kT37 29 (.aload_n 0) 30 := ⟨1, rfl, Or.inr rfl, rfl⟩
set_option maxRecDepth 100000 in
theorem lk37_30 : xAt kT37 30 (.invokevirtual 129) 33 := ⟨3, rfl, Or.inr rfl, rfl⟩
set_option maxRecDepth 100000 in
theorem lk37_33 : xAt kT37 33 (.iconst 4) 34 := ⟨1, rfl, Or.inr rfl, rfl⟩
set_option maxRecDepth 100000 in
theorem lk37_34 : xAt kT37 34 (.istore_n 1) 35 := ⟨1, rfl, Or.inr rfl, rfl⟩
set_option maxRecDepth 100000 in
theorem lk37_35 : xAt kT37 35 (.iload_n 1) 36 := ⟨1, rfl, Or.inr rfl, rfl⟩
set_option maxRecDepth 100000 in
theorem lk37_36 : xAt kT37 36 (.bipush 16) 38 := ⟨2, rfl, Or.inr rfl, rfl⟩
set_option maxRecDepth 100000 in
theorem lk37_38 : xAt kT37 38 (.if_icmp .ge 48) 41 := ⟨3, rfl, Or.inr rfl, rfl⟩
set_option maxRecDepth 100000 in
theorem lk37_41 : xAt kT37 41 (.aload_n 0) 42 := ⟨1, rfl, Or.inr rfl, rfl⟩
set_option maxRecDepth 100000 in
theorem lk37_42 : xAt kT37 42 (.iload_n 1) 43 := ⟨1, rfl, Or.inr rfl, rfl⟩
set_option maxRecDepth 100000 in
theorem lk37_43 : xAt kT37 43 (.invokevirtual 132) 46 := ⟨3, rfl, Or.inr rfl, rfl⟩
set_option maxRecDepth 100000 in
theorem lk37_46 : xAt kT37 46 (.ifCond .eq 29) 49 := ⟨3, rfl, Or.inr rfl, rfl⟩
set_option maxRecDepth 100000 in
theorem lk37_49 : xAt kT37 49 (.aload_n 0) 50 := ⟨1, rfl, Or.inr rfl, rfl⟩
set_option maxRecDepth 100000 in
theorem lk37_50 : xAt kT37 50 (.iload_n 1) 51 := ⟨1, rfl, Or.inr rfl, rfl⟩
set_option maxRecDepth 100000 in
theorem lk37_51 : xAt kT37 51 (.aload_n 0) 52 := ⟨1, rfl, Or.inr rfl, rfl⟩
set_option maxRecDepth 100000 in
theorem lk37_52 : xAt kT37 52 (.getfield 11) 55 := ⟨3, rfl, Or.inr rfl, rfl⟩
set_option maxRecDepth 100000 in
theorem lk37_55 : xAt kT37 55 (.iload_n 1) 56 := ⟨1, rfl, Or.inr rfl, rfl⟩
set_option maxRecDepth 100000 in
theorem lk37_56 : xAt kT37 56 (.aaload) 57 := ⟨1, rfl, Or.inr rfl, rfl⟩
set_option maxRecDepth 100000 in
theorem lk37_57 : xAt kT37 57 (.aload_n 0) 58 := ⟨1, rfl, Or.inr rfl, rfl⟩
set_option maxRecDepth 100000 in
theorem lk37_58 : xAt kT37 58 (.getfield 11) 61 := ⟨3, rfl, Or.inr rfl, rfl⟩
set_option maxRecDepth 100000 in
theorem lk37_61 : xAt kT37 61 (.iload_n 1) 62 := ⟨1, rfl, Or.inr rfl, rfl⟩
set_option maxRecDepth 100000 in
theorem lk37_62 : xAt kT37 62 (.aaload) 63 := ⟨1, rfl, Or.inr rfl, rfl⟩
set_option maxRecDepth 100000 in
theorem lk37_63 : xAt kT37 63 (.getfield 96) 66 := ⟨3, rfl, Or.inr rfl, rfl⟩
set_option maxRecDepth 100000 in
theorem lk37_66 : xAt kT37 66 (.invokevirtual 89) 69 := ⟨3, rfl, Or.inr rfl, rfl⟩
set_option maxRecDepth 100000 in
theorem lk37_69 : xAt kT37 69 (.invokevirtual 93) 72 := ⟨3, rfl, Or.inr rfl, rfl⟩
set_option maxRecDepth 100000 in
theorem lk37_72 : xAt kT37 72 (.goto 8) 75 := ⟨3, rfl, Or.inr rfl, rfl⟩
set_option maxRecDepth 100000 in
theorem lk37_75 : xAt kT37 75 (.aload_n 0) 76 := ⟨1, rfl, Or.inr rfl, rfl⟩
set_option maxRecDepth 100000 in
theorem lk37_76 : xAt kT37 76 (.iload_n 1) 77 := ⟨1, rfl, Or.inr rfl, rfl⟩
set_option maxRecDepth 100000 in
theorem lk37_77 : xAt kT37 77 (.invokevirtual 86) 80 := ⟨3, rfl, Or.inr rfl, rfl⟩
set_option maxRecDepth 100000 in
theorem lk37_80 : xAt kT37 80 (.iinc 1 1) 83 := ⟨3, rfl, Or.inr rfl, rfl⟩
set_option maxRecDepth 100000 in
theorem lk37_83 : xAt kT37 83 (.goto (-48)) 86 := ⟨3, rfl, Or.inr rfl, rfl⟩
set_option maxRecDepth 100000 in
theorem lk37_86 : xAt kT37 86 (.return_) 87 := ⟨1, rfl, Or.inr rfl, rfl⟩
set_option maxRecDepth 100000 in
theorem lk114_0 : xAt kT114 0 (.aload_n 0) 1 := ⟨1, rfl, Or.inr rfl, rfl⟩
set_option maxRecDepth 100000 in
theorem lk114_1 : xAt kT114 1 (.iconst 1) 2 := ⟨1, rfl, Or.inr rfl, rfl⟩
set_option maxRecDepth 100000 in
theorem lk114_2 : xAt kT114 2 (.putfield 22) 5 := ⟨3, rfl, Or.inr rfl, rfl⟩
set_option maxRecDepth 100000 in
theorem lk114_5 : xAt kT114 5 (.aload_n 0) 6 := ⟨1, rfl, Or.inr rfl, rfl⟩
set_option maxRecDepth 100000 in
theorem lk114_6 : xAt kT114 6 (.iload_n 1) 7 := ⟨1, rfl, Or.inr rfl, rfl⟩
set_option maxRecDepth 100000 in
theorem lk114_7 : xAt kT114 7 (.putfield 26) 10 := ⟨3, rfl, Or.inr rfl, rfl⟩
set_option maxRecDepth 100000 in
theorem lk114_10 : xAt kT114 10 (.aload_n 0) 11 := ⟨1, rfl, Or.inr rfl, rfl⟩
set_option maxRecDepth 100000 in
theorem lk114_11 : xAt kT114 11 (.iload_n 2) 12 := ⟨1, rfl, Or.inr rfl, rfl⟩
set_option maxRecDepth 100000 in
theorem lk114_12 : xAt kT114 12 (.putfield 30) 15 := ⟨3, rfl, Or.inr rfl, rfl⟩
set_option maxRecDepth 100000 in
theorem lk114_15 : xAt kT114 15 (.aload_n 0) 16 := ⟨1, rfl, Or.inr rfl, rfl⟩
set_option maxRecDepth 100000 in
theorem lk114_16 : xAt kT114 16 (.iload_n 3) 17 := ⟨1, rfl, Or.inr rfl, rfl⟩
set_option maxRecDepth 100000 in
theorem lk114_17 : xAt kT114 17 (.putfield 33) 20 := ⟨3, rfl, Or.inr rfl, rfl⟩
set_option maxRecDepth 100000 in
theorem lk114_20 : xAt kT114 20 (.aload_n 0) 21 := ⟨1, rfl, Or.inr rfl, rfl⟩
set_option maxRecDepth 100000 in
theorem lk114_21 : xAt kT114 21 (.iload 4) 23 := ⟨2, rfl, Or.inr rfl, rfl⟩
set_option maxRecDepth 100000 in
theorem lk114_23 : xAt kT114 23 (.putfield 36) 26 := ⟨3, rfl, Or.inr rfl, rfl⟩
set_option maxRecDepth 100000 in
theorem lk114_26 : xAt kT114 26 (.aload_n 0) 27 := ⟨1, rfl, Or.inr rfl, rfl⟩
set_option maxRecDepth 100000 in
theorem lk114_27 : xAt kT114 27 (.iconst 0) 28 := ⟨1, rfl, Or.inr rfl, rfl⟩
set_option maxRecDepth 100000 in
theorem lk114_28 : xAt kT114 28 (.putfield 39) 31 := ⟨3, rfl, Or.inr rfl, rfl⟩
set_option maxRecDepth 100000 in
theorem lk114_31 : xAt kT114 31 (.aload_n 0) 32 := ⟨1, rfl, Or.inr rfl, rfl⟩
set_option maxRecDepth 100000 in
theorem lk114_32 : xAt kT114 32 (.iconst 0) 33 := ⟨1, rfl, Or.inr rfl, rfl⟩
set_option maxRecDepth 100000 in
theorem lk114_33 : xAt kT114 33 (.putfield 42) 36 := ⟨3, rfl, Or.inr rfl, rfl⟩
set_option maxRecDepth 100000 in
theorem lk114_36 : xAt kT114 36 (.return_) 37 := ⟨1, rfl, Or.inr rfl, rfl⟩
set_option maxRecDepth 100000 in
theorem lk44_0 : xAt kT44 0 (.iconst 4) 1 := ⟨1, rfl, Or.inr rfl, rfl⟩
set_option maxRecDepth 100000 in
theorem lk44_1 : xAt kT44 1 (.istore_n 3) 2 := ⟨1, rfl, Or.inr rfl, rfl⟩
set_option maxRecDepth 100000 in
theorem lk44_2 : xAt kT44 2 (.iload_n 3) 3 := ⟨1, rfl, Or.inr rfl, rfl⟩
set_option maxRecDepth 100000 in
theorem lk44_3 : xAt kT44 3 (.bipush 16) 5 := ⟨2, rfl, Or.inr rfl, rfl⟩
set_option maxRecDepth 100000 in
theorem lk44_5 : xAt kT44 5 (.if_icmp .ge 70) 8 := ⟨3, rfl, Or.inr rfl, rfl⟩
set_option maxRecDepth 100000 in
theorem lk44_8 : xAt kT44 8 (.aload_n 0) 9 := ⟨1, rfl, Or.inr rfl, rfl⟩
set_option maxRecDepth 100000 in
theorem lk44_9 : xAt kT44 9 (.getfield 11) 12 := ⟨3, rfl, Or.inr rfl, rfl⟩
set_option maxRecDepth 100000 in
theorem lk44_12 : xAt kT44 12 (.iload_n 3) 13 := ⟨1, rfl, Or.inr rfl, rfl⟩
set_option maxRecDepth 100000 in
theorem lk44_13 : xAt kT44 13 (.aaload) 14 := ⟨1, rfl, Or.inr rfl, rfl⟩
set_option maxRecDepth 100000 in
theorem lk44_14 : xAt kT44 14 (.getfield 41) 17 := ⟨3, rfl, Or.inr rfl, rfl⟩
set_option maxRecDepth 100000 in
theorem lk44_17 : xAt kT44 17 (.ifCond .ne 52) 20 := ⟨3, rfl, Or.inr rfl, rfl⟩
set_option maxRecDepth 100000 in
theorem lk44_20 : xAt kT44 20 (.aload_n 0) 21 := ⟨1, rfl, Or.inr rfl, rfl⟩
set_option maxRecDepth 100000 in
theorem lk44_21 : xAt kT44 21 (.getfield 11) 24 := ⟨3, rfl, Or.inr rfl, rfl⟩
set_option maxRecDepth 100000 in
theorem lk44_24 : xAt kT44 24 (.iload_n 3) 25 := ⟨1, rfl, Or.inr rfl, rfl⟩
set_option maxRecDepth 100000 in
theorem lk44_25 : xAt kT44 25 (.aaload) 26 := ⟨1, rfl, Or.inr rfl, rfl⟩
set_option maxRecDepth 100000 in
theorem lk44_26 : xAt kT44 26 (.bipush 24) 28 := ⟨2, rfl, Or.inr rfl, rfl⟩
set_option maxRecDepth 100000 in
theorem lk44_28 : xAt kT44 28 (.iload_n 1) 29 := ⟨1, rfl, Or.inr rfl, rfl⟩
set_option maxRecDepth 100000 in
theorem lk44_29 : xAt kT44 29 (.iload_n 2) 30 := ⟨1, rfl, Or.inr rfl, rfl⟩
set_option maxRecDepth 100000 in
theorem lk44_30 : xAt kT44 30 (.iconst 0) 31 := ⟨1, rfl, Or.inr rfl, rfl⟩
set_option maxRecDepth 100000 in
theorem lk44_31 : xAt kT44 31 (.invokevirtual 51) 34 := ⟨3, rfl, Or.inr rfl, rfl⟩
set_option maxRecDepth 100000 in
theorem lk44_34 : xAt kT44 34 (.aload_n 0) 35 := ⟨1, rfl, Or.inr rfl, rfl⟩
set_option maxRecDepth 100000 in
theorem lk44_35 : xAt kT44 35 (.getfield 20) 38 := ⟨3, rfl, Or.inr rfl, rfl⟩
set_option maxRecDepth 100000 in
theorem lk44_38 : xAt kT44 38 (.iload_n 3) 39 := ⟨1, rfl, Or.inr rfl, rfl⟩
set_option maxRecDepth 100000 in
theorem lk44_39 : xAt kT44 39 (.iconst 0) 40 := ⟨1, rfl, Or.inr rfl, rfl⟩
set_option maxRecDepth 100000 in
theorem lk44_40 : xAt kT44 40 (.iastore) 41 := ⟨1, rfl, Or.inr rfl, rfl⟩
set_option maxRecDepth 100000 in
theorem lk44_41 : xAt kT44 41 (.aload_n 0) 42 := ⟨1, rfl, Or.inr rfl, rfl⟩
set_option maxRecDepth 100000 in
theorem lk44_42 : xAt kT44 42 (.getfield 24) 45 := ⟨3, rfl, Or.inr rfl, rfl⟩
set_option maxRecDepth 100000 in
theorem lk44_45 : xAt kT44 45 (.iload_n 3) 46 := ⟨1, rfl, Or.inr rfl, rfl⟩
set_option maxRecDepth 100000 in
theorem lk44_46 : xAt kT44 46 (.iconst 0) 47 := ⟨1, rfl, Or.inr rfl, rfl⟩
set_option maxRecDepth 100000 in
theorem lk44_47 : xAt kT44 47 (.iastore) 48 := ⟨1, rfl, Or.inr rfl, rfl⟩
set_option maxRecDepth 100000 in
theorem lk44_48 : xAt kT44 48 (.aload_n 0) 49 := ⟨1, rfl, Or.inr rfl, rfl⟩
set_option maxRecDepth 100000 in
theorem lk44_49 : xAt kT44 49 (.getfield 27) 52 := ⟨3, rfl, Or.inr rfl, rfl⟩
set_option maxRecDepth 100000 in
theorem lk44_52 : xAt kT44 52 (.aload_n 0) 53 := ⟨1, rfl, Or.inr rfl, rfl⟩
set_option maxRecDepth 100000 in
theorem lk44_53 : xAt kT44 53 (.getfield 72) 56 := ⟨3, rfl, Or.inr rfl, rfl⟩
set_option maxRecDepth 100000 in
theorem lk44_56 : xAt kT44 56 (.iload_n 3) 57 := ⟨1, rfl, Or.inr rfl, rfl⟩
set_option maxRecDepth 100000 in
theorem lk44_57 : xAt kT44 57 (.iastore) 58 := ⟨1, rfl, Or.inr rfl, rfl⟩
set_option maxRecDepth 100000 in
theorem lk44_58 : xAt kT44 58 (.aload_n 0) 59 := ⟨1, rfl, Or.inr rfl, rfl⟩
set_option maxRecDepth 100000 in
theorem lk44_59 : xAt kT44 59 (.dup) 60 := ⟨1, rfl, Or.inr rfl, rfl⟩
set_option maxRecDepth 100000 in
theorem lk44_60 : xAt kT44 60 (.getfield 72) 63 := ⟨3, rfl, Or.inr rfl, rfl⟩
set_option maxRecDepth 100000 in
theorem lk44_63 : xAt kT44 63 (.iconst 1) 64 := ⟨1, rfl, Or.inr rfl, rfl⟩
set_option maxRecDepth 100000 in
theorem lk44_64 : xAt kT44 64 (.iadd) 65 := ⟨1, rfl, Or.inr rfl, rfl⟩
set_option maxRecDepth 100000 in
theorem lk44_65 : xAt kT44 65 (.putfield 72) 68 := ⟨3, rfl, Or.inr rfl, rfl⟩
set_option maxRecDepth 100000 in
theorem lk44_68 : xAt kT44 68 (.return_) 69 := ⟨1, rfl, Or.inr rfl, rfl⟩
set_option maxRecDepth 100000 in
theorem lk44_69 : xAt kT44 69 (.iinc 3 1) 72 := ⟨3, rfl, Or.inr rfl, rfl⟩
set_option maxRecDepth 100000 in
theorem lk44_72 : xAt kT44 72 (.goto (-70)) 75 := ⟨3, rfl, Or.inr rfl, rfl⟩
set_option maxRecDepth 100000 in
theorem lk44_75 : xAt kT44 75 (.return_) 76 := ⟨1, rfl, Or.inr rfl, rfl⟩
set_option maxRecDepth 100000 in
theorem lk47_0 : xAt kT47 0 (.aload_n 0) 1 := ⟨1, rfl, Or.inr rfl, rfl⟩
set_option maxRecDepth 100000 in
theorem lk47_1 : xAt kT47 1 (.getfield 34) 4 := ⟨3, rfl, Or.inr rfl, rfl⟩
set_option maxRecDepth 100000 in
theorem lk47_4 : xAt kT47 4 (.iconst (-1)) 5 := ⟨1, rfl, Or.inr rfl, rfl⟩
set_option maxRecDepth 100000 in
theorem lk47_5 : xAt kT47 5 (.if_icmp .ne 7) 8 := ⟨3, rfl, Or.inr rfl, rfl⟩
set_option maxRecDepth 100000 in
theorem lk47_8 : xAt kT47 8 (.iconst 0) 9 := ⟨1, rfl, Or.inr rfl, rfl⟩
set_option maxRecDepth 100000 in
theorem lk47_9 : xAt kT47 9 (.goto 15) 12 := ⟨3, rfl, Or.inr rfl, rfl⟩
set_option maxRecDepth 100000 in
theorem lk47_12 : xAt kT47 12 (.aload_n 0) 13 := ⟨1, rfl, Or.inr rfl, rfl⟩
set_option maxRecDepth 100000 in
theorem lk47_13 : xAt kT47 13 (.getfield 11) 16 := ⟨3, rfl, Or.inr rfl, rfl⟩
set_option maxRecDepth 100000 in
theorem lk47_16 : xAt kT47 16 (.aload_n 0) 17 := ⟨1, rfl, Or.inr rfl, rfl⟩
set_option maxRecDepth 100000 in
theorem lk47_17 : xAt kT47 17 (.getfield 34) 20 := ⟨3, rfl, Or.inr rfl, rfl⟩
set_option maxRecDepth 100000 in
theorem lk47_20 : xAt kT47 20 (.aaload) 21 := ⟨1, rfl, Or.inr rfl, rfl⟩
set_option maxRecDepth 100000 in
theorem lk47_21 : xAt kT47 21 (.getfield 69) 24 := ⟨3, rfl, Or.inr rfl, rfl⟩
set_option maxRecDepth 100000 in
theorem lk47_24 : xAt kT47 24 (.ireturn) 25 := ⟨1, rfl, Or.inr rfl, rfl⟩
set_option maxRecDepth 100000 in
theorem lk48_0 : xAt kT48 0 (.iconst 0) 1 := ⟨1, rfl, Or.inr rfl, rfl⟩
set_option maxRecDepth 100000 in
theorem lk48_1 : xAt kT48 1 (.istore_n 1) 2 := ⟨1, rfl, Or.inr rfl, rfl⟩
set_option maxRecDepth 100000 in
theorem lk48_2 : xAt kT48 2 (.iload_n 1) 3 := ⟨1, rfl, Or.inr rfl, rfl⟩
set_option maxRecDepth 100000 in
theorem lk48_3 : xAt kT48 3 (.bipush 16) 5 := ⟨2, rfl, Or.inr rfl, rfl⟩
set_option maxRecDepth 100000 in
theorem lk48_5 : xAt kT48 5 (.if_icmp .ge 14) 8 := ⟨3, rfl, Or.inr rfl, rfl⟩
set_option maxRecDepth 100000 in
theorem lk48_8 : xAt kT48 8 (.aload_n 0) 9 := ⟨1, rfl, Or.inr rfl, rfl⟩
set_option maxRecDepth 100000 in
theorem lk48_9 : xAt kT48 9 (.iload_n 1) 10 := ⟨1, rfl, Or.inr rfl, rfl⟩
set_option maxRecDepth 100000 in
theorem lk48_10 : xAt kT48 10 (.invokevirtual 109) 13 := ⟨3, rfl, Or.inr rfl, rfl⟩
set_option maxRecDepth 100000 in
theorem lk48_13 : xAt kT48 13 (.iinc 1 1) 16 := ⟨3, rfl, Or.inr rfl, rfl⟩
set_option maxRecDepth 100000 in
theorem lk48_16 : xAt kT48 16 (.goto (-14)) 19 := ⟨3, rfl, Or.inr rfl, rfl⟩
set_option maxRecDepth 100000 in
theorem lk48_19 : xAt kT48 19 (.aload_n 0) 20 := ⟨1, rfl, Or.inr rfl, rfl⟩
set_option maxRecDepth 100000 in
theorem lk48_20 : xAt kT48 20 (.iconst 0) 21 := ⟨1, rfl, Or.inr rfl, rfl⟩
set_option maxRecDepth 100000 in
theorem lk48_21 : xAt kT48 21 (.putfield 45) 24 := ⟨3, rfl, Or.inr rfl, rfl⟩
set_option maxRecDepth 100000 in
theorem lk48_24 : xAt kT48 24 (.return_) 25 := ⟨1, rfl, Or.inr rfl, rfl⟩
set_option maxRecDepth 100000 in
theorem lk50_0 : xAt kT50 0 (.iload_n 2) 1 := ⟨1, rfl, Or.inr rfl, rfl⟩
set_option maxRecDepth 100000 in
theorem lk50_1 : xAt kT50 1 (.tableswitch 76 0 3 #[31, 41, 51, 58]) 32 := ⟨31, rfl, Or.inl rfl, rfl⟩
set_option maxRecDepth 100000 in
theorem lk50_32 : xAt kT50 32 (.aload_n 0) 33 := ⟨1, rfl, Or.inr rfl, rfl⟩
set_option maxRecDepth 100000 in
theorem lk50_33 : xAt kT50 33 (.getfield 11) 36 := ⟨3, rfl, Or.inr rfl, rfl⟩
set_option maxRecDepth 100000 in
theorem lk50_36 : xAt kT50 36 (.iload_n 1) 37 := ⟨1, rfl, Or.inr rfl, rfl⟩
set_option maxRecDepth 100000 in
theorem lk50_37 : xAt kT50 37 (.aaload) 38 := ⟨1, rfl, Or.inr rfl, rfl⟩
set_option maxRecDepth 100000 in
theorem lk50_38 : xAt kT50 38 (.getfield 38) 41 := ⟨3, rfl, Or.inr rfl, rfl⟩
set_option maxRecDepth 100000 in
theorem lk50_41 : xAt kT50 41 (.ireturn) 42 := ⟨1, rfl, Or.inr rfl, rfl⟩
set_option maxRecDepth 100000 in
theorem lk50_42 : xAt kT50 42 (.aload_n 0) 43 := ⟨1, rfl, Or.inr rfl, rfl⟩
set_option maxRecDepth 100000 in
theorem lk50_43 : xAt kT50 43 (.getfield 17) 46 := ⟨3, rfl, Or.inr rfl, rfl⟩
set_option maxRecDepth 100000 in
theorem lk50_46 : xAt kT50 46 (.iload_n 1) 47 := ⟨1, rfl, Or.inr rfl, rfl⟩
set_option maxRecDepth 100000 in
theorem lk50_47 : xAt kT50 47 (.aaload) 48 := ⟨1, rfl, Or.inr rfl, rfl⟩
set_option maxRecDepth 100000 in
theorem lk50_48 : xAt kT50 48 (.getfield 38) 51 := ⟨3, rfl, Or.inr rfl, rfl⟩
set_option maxRecDepth 100000 in
theorem lk50_51 : xAt kT50 51 (.ireturn) 52 := ⟨1, rfl, Or.inr rfl, rfl⟩
set_option maxRecDepth 100000 in
theorem lk50_52 : xAt kT50 52 (.aload_n 0) 53 := ⟨1, rfl, Or.inr rfl, rfl⟩
set_option maxRecDepth 100000 in
theorem lk50_53 : xAt kT50 53 (.getfield 20) 56 := ⟨3, rfl, Or.inr rfl, rfl⟩
set_option maxRecDepth 100000 in
theorem lk50_56 : xAt kT50 56 (.iload_n 1) 57 := ⟨1, rfl, Or.inr rfl, rfl⟩
set_option maxRecDepth 100000 in
theorem lk50_57 : xAt kT50 57 (.iaload) 58 := ⟨1, rfl, Or.inr rfl, rfl⟩
set_option maxRecDepth 100000 in
theorem lk50_58 : xAt kT50 58 (.ireturn) 59 := ⟨1, rfl, Or.inr rfl, rfl⟩
set_option maxRecDepth 100000 in
theorem lk50_59 : xAt kT50 59 (.aload_n 0) 60 := ⟨1, rfl, Or.inr rfl, rfl⟩
set_option maxRecDepth 100000 in
theorem lk50_60 : xAt kT50 60 (.getfield 11) 63 := ⟨3, rfl, Or.inr rfl, rfl⟩
set_option maxRecDepth 100000 in
theorem lk50_63 : xAt kT50 63 (.iload_n 1) 64 := ⟨1, rfl, Or.inr rfl, rfl⟩
set_option maxRecDepth 100000 in
theorem lk50_64 : xAt kT50 64 (.aaload) 65 := ⟨1, rfl, Or.inr rfl, rfl⟩
set_option maxRecDepth 100000 in
theorem lk50_65 : xAt kT50 65 (.getfield 41) 68 := ⟨3, rfl, Or.inr rfl, rfl⟩
set_option maxRecDepth 100000 in
theorem lk50_68 : xAt kT50 68 (.ifCond .eq 7) 71 := ⟨3, rfl, Or.inr rfl, rfl⟩
set_option maxRecDepth 100000 in
theorem lk50_71 : xAt kT50 71 (.iconst 1) 72 := ⟨1, rfl, Or.inr rfl, rfl⟩
set_option maxRecDepth 100000 in
theorem lk50_72 : xAt kT50 72 (.goto 4) 75 := ⟨3, rfl, Or.inr rfl, rfl⟩
set_option maxRecDepth 100000 in
theorem lk50_75 : xAt kT50 75 (.iconst 0) 76 := ⟨1, rfl, Or.inr rfl, rfl⟩
set_option maxRecDepth 100000 in
theorem lk50_76 : xAt kT50 76 (.ireturn) 77 := ⟨1, rfl, Or.inr rfl, rfl⟩
set_option maxRecDepth 100000 in
theorem lk50_77 : xAt kT50 77 (.aload_n 0) 78 := ⟨1, rfl, Or.inr rfl, rfl⟩
set_option maxRecDepth 100000 in
theorem lk50_78 : xAt kT50 78 (.getfield 17) 81 := ⟨3, rfl, Or.inr rfl, rfl⟩
set_option maxRecDepth 100000 in
theorem lk50_81 : xAt kT50 81 (.iload_n 1) 82 := ⟨1, rfl, Or.inr rfl, rfl⟩
set_option maxRecDepth 100000 in
theorem lk50_82 : xAt kT50 82 (.aaload) 83 := ⟨1, rfl, Or.inr rfl, rfl⟩
set_option maxRecDepth 100000 in
theorem lk50_83 : xAt kT50 83 (.getfield 41) 86 := ⟨3, rfl, Or.inr rfl, rfl⟩
set_option maxRecDepth 100000 in
theorem lk50_86 : xAt kT50 86 (.ifCond .eq 7) 89 := ⟨3, rfl, Or.inr rfl, rfl⟩
set_option maxRecDepth 100000 in
theorem lk50_89 : xAt kT50 89 (.iconst 1) 90 := ⟨1, rfl, Or.inr rfl, rfl⟩
set_option maxRecDepth 100000 in
theorem lk50_90 : xAt kT50 90 (.goto 4) 93 := ⟨3, rfl, Or.inr rfl, rfl⟩
set_option maxRecDepth 100000 in
theorem lk50_93 : xAt kT50 93 (.iconst 0) 94 := ⟨1, rfl, Or.inr rfl, rfl⟩
set_option maxRecDepth 100000 in
theorem lk50_94 : xAt kT50 94 (.ireturn) 95 := ⟨1, rfl, Or.inr rfl, rfl⟩
set_option maxRecDepth 100000 in
theorem lk52_0 : xAt kT52 0 (.aload_n 0) 1 := ⟨1, rfl, Or.inr rfl, rfl⟩
set_option maxRecDepth 100000 in
theorem lk52_1 : xAt kT52 1 (.getfield 45) 4 := ⟨3, rfl, Or.inr rfl, rfl⟩
set_option maxRecDepth 100000 in
theorem lk52_4 : xAt kT52 4 (.ifCond .ne 20) 7 := ⟨3, rfl, Or.inr rfl, rfl⟩
set_option maxRecDepth 100000 in
theorem lk52_7 : xAt kT52 7 (.aload_n 0) 8 := ⟨1, rfl, Or.inr rfl, rfl⟩
set_option maxRecDepth 100000 in
theorem lk52_8 : xAt kT52 8 (.aload_n 0) 9 := ⟨1, rfl, Or.inr rfl, rfl⟩
set_option maxRecDepth 100000 in
theorem lk52_9 : xAt kT52 9 (.getfield 30) 12 := ⟨3, rfl, Or.inr rfl, rfl⟩
set_option maxRecDepth 100000 in
theorem lk52_12 : xAt kT52 12 (.iconst 1) 13 := ⟨1, rfl, Or.inr rfl, rfl⟩
set_option maxRecDepth 100000 in
theorem lk52_13 : xAt kT52 13 (.if_icmp .ne 7) 16 := ⟨3, rfl, Or.inr rfl, rfl⟩
set_option maxRecDepth 100000 in
theorem lk52_16 : xAt kT52 16 (.iconst 0) 17 := ⟨1, rfl, Or.inr rfl, rfl⟩
set_option maxRecDepth 100000 in
theorem lk52_17 : xAt kT52 17 (.goto 4) 20 := ⟨3, rfl, Or.inr rfl, rfl⟩
set_option maxRecDepth 100000 in
theorem lk52_20 : xAt kT52 20 (.iconst 1) 21 := ⟨1, rfl, Or.inr rfl, rfl⟩
set_option maxRecDepth 100000 in
theorem lk52_21 : xAt kT52 21 (.putfield 30) 24 := ⟨3, rfl, Or.inr rfl, rfl⟩
set_option maxRecDepth 100000 in
theorem lk52_24 : xAt kT52 24 (.aload_n 0) 25 := ⟨1, rfl, Or.inr rfl, rfl⟩
set_option maxRecDepth 100000 in
theorem lk52_25 : xAt kT52 25 (.iconst 1) 26 := ⟨1, rfl, Or.inr rfl, rfl⟩
set_option maxRecDepth 100000 in
theorem lk52_26 : xAt kT52 26 (.putfield 45) 29 := ⟨3, rfl, Or.inr rfl, rfl⟩
set_option maxRecDepth 100000 in
theorem lk52_29 : xAt kT52 29 (.aload_n 0) 30 := ⟨1, rfl, Or.inr rfl, rfl⟩
set_option maxRecDepth 100000 in
theorem lk52_30 : xAt kT52 30 (.dup) 31 := ⟨1, rfl, Or.inr rfl, rfl⟩
set_option maxRecDepth 100000 in
theorem lk52_31 : xAt kT52 31 (.getfield 48) 34 := ⟨3, rfl, Or.inr rfl, rfl⟩
set_option maxRecDepth 100000 in
theorem lk52_34 : xAt kT52 34 (.iconst 1) 35 := ⟨1, rfl, Or.inr rfl, rfl⟩
set_option maxRecDepth 100000 in
theorem lk52_35 : xAt kT52 35 (.iadd) 36 := ⟨1, rfl, Or.inr rfl, rfl⟩
set_option maxRecDepth 100000 in
theorem lk52_36 : xAt kT52 36 (.putfield 48) 39 := ⟨3, rfl, Or.inr rfl, rfl⟩
set_option maxRecDepth 100000 in
theorem lk52_39 : xAt kT52 39 (.aload_n 0) 40 := ⟨1, rfl, Or.inr rfl, rfl⟩
set_option maxRecDepth 100000 in
theorem lk52_40 : xAt kT52 40 (.getfield 20) 43 := ⟨3, rfl, Or.inr rfl, rfl⟩
set_option maxRecDepth 100000 in
theorem lk52_43 : xAt kT52 43 (.aload_n 0) 44 := ⟨1, rfl, Or.inr rfl, rfl⟩
set_option maxRecDepth 100000 in
theorem lk52_44 : xAt kT52 44 (.getfield 30) 47 := ⟨3, rfl, Or.inr rfl, rfl⟩
set_option maxRecDepth 100000 in
theorem lk52_47 : xAt kT52 47 (.iconst 0) 48 := ⟨1, rfl, Or.inr rfl, rfl⟩
set_option maxRecDepth 100000 in
theorem lk52_48 : xAt kT52 48 (.iastore) 49 := ⟨1, rfl, Or.inr rfl, rfl⟩
set_option maxRecDepth 100000 in
theorem lk52_49 : xAt kT52 49 (.aload_n 0) 50 := ⟨1, rfl, Or.inr rfl, rfl⟩
set_option maxRecDepth 100000 in
theorem lk52_50 : xAt kT52 50 (.getfield 11) 53 := ⟨3, rfl, Or.inr rfl, rfl⟩
set_option maxRecDepth 100000 in
theorem lk52_53 : xAt kT52 53 (.aload_n 0) 54 := ⟨1, rfl, Or.inr rfl, rfl⟩
set_option maxRecDepth 100000 in
theorem lk52_54 : xAt kT52 54 (.getfield 30) 57 := ⟨3, rfl, Or.inr rfl, rfl⟩
set_option maxRecDepth 100000 in
theorem lk52_57 : xAt kT52 57 (.aaload) 58 := ⟨1, rfl, Or.inr rfl, rfl⟩
set_option maxRecDepth 100000 in
theorem lk52_58 : xAt kT52 58 (.bipush 32) 60 := ⟨2, rfl, Or.inr rfl, rfl⟩
set_option maxRecDepth 100000 in
theorem lk52_60 : xAt kT52 60 (.aload_n 0) 61 := ⟨1, rfl, Or.inr rfl, rfl⟩
set_option maxRecDepth 100000 in
theorem lk52_61 : xAt kT52 61 (.getfield 48) 64 := ⟨3, rfl, Or.inr rfl, rfl⟩
set_option maxRecDepth 100000 in
theorem lk52_64 : xAt kT52 64 (.iload_n 1) 65 := ⟨1, rfl, Or.inr rfl, rfl⟩
set_option maxRecDepth 100000 in
theorem lk52_65 : xAt kT52 65 (.iload_n 2) 66 := ⟨1, rfl, Or.inr rfl, rfl⟩
set_option maxRecDepth 100000 in
theorem lk52_66 : xAt kT52 66 (.invokevirtual 51) 69 := ⟨3, rfl, Or.inr rfl, rfl⟩
set_option maxRecDepth 100000 in
theorem lk52_69 : xAt kT52 69 (.return_) 70 := ⟨1, rfl, Or.inr rfl, rfl⟩
set_option maxRecDepth 100000 in
theorem lk54_0 : xAt kT54 0 (.aload_n 0) 1 := ⟨1, rfl, Or.inr rfl, rfl⟩
set_option maxRecDepth 100000 in
theorem lk54_1 : xAt kT54 1 (.getfield 9) 4 := ⟨3, rfl, Or.inr rfl, rfl⟩
set_option maxRecDepth 100000 in
theorem lk54_4 : xAt kT54 4 (.iload_n 1) 5 := ⟨1, rfl, Or.inr rfl, rfl⟩
set_option maxRecDepth 100000 in
theorem lk54_5 : xAt kT54 5 (.iconst 1) 6 := ⟨1, rfl, Or.inr rfl, rfl⟩
set_option maxRecDepth 100000 in
theorem lk54_6 : xAt kT54 6 (.iadd) 7 := ⟨1, rfl, Or.inr rfl, rfl⟩
set_option maxRecDepth 100000 in
theorem lk54_7 : xAt kT54 7 (.invokestatic 41) 10 := ⟨3, rfl, Or.inr rfl, rfl⟩
set_option maxRecDepth 100000 in
theorem lk54_10 : xAt kT54 10 (.aload_n 0) 11 := ⟨1, rfl, Or.inr rfl, rfl⟩
set_option maxRecDepth 100000 in
theorem lk54_11 : xAt kT54 11 (.getfield 15) 14 := ⟨3, rfl, Or.inr rfl, rfl⟩
set_option maxRecDepth 100000 in
theorem lk54_14 : xAt kT54 14 (.iconst 0) 15 := ⟨1, rfl, Or.inr rfl, rfl⟩
set_option maxRecDepth 100000 in
theorem lk54_15 : xAt kT54 15 (.invokestatic 41) 18 := ⟨3, rfl, Or.inr rfl, rfl⟩
set_option maxRecDepth 100000 in
theorem lk54_18 : xAt kT54 18 (.aload_n 0) 19 := ⟨1, rfl, Or.inr rfl, rfl⟩
set_option maxRecDepth 100000 in
theorem lk54_19 : xAt kT54 19 (.getfield 18) 22 := ⟨3, rfl, Or.inr rfl, rfl⟩
set_option maxRecDepth 100000 in
theorem lk54_22 : xAt kT54 22 (.iconst 0) 23 := ⟨1, rfl, Or.inr rfl, rfl⟩
set_option maxRecDepth 100000 in
theorem lk54_23 : xAt kT54 23 (.invokestatic 41) 26 := ⟨3, rfl, Or.inr rfl, rfl⟩
set_option maxRecDepth 100000 in
theorem lk54_26 : xAt kT54 26 (.aload_n 0) 27 := ⟨1, rfl, Or.inr rfl, rfl⟩
set_option maxRecDepth 100000 in
theorem lk54_27 : xAt kT54 27 (.getfield 21) 30 := ⟨3, rfl, Or.inr rfl, rfl⟩
set_option maxRecDepth 100000 in
theorem lk54_30 : xAt kT54 30 (.iconst 0) 31 := ⟨1, rfl, Or.inr rfl, rfl⟩
set_option maxRecDepth 100000 in
theorem lk54_31 : xAt kT54 31 (.invokestatic 41) 34 := ⟨3, rfl, Or.inr rfl, rfl⟩
set_option maxRecDepth 100000 in
theorem lk54_34 : xAt kT54 34 (.aload_n 0) 35 := ⟨1, rfl, Or.inr rfl, rfl⟩
set_option maxRecDepth 100000 in
theorem lk54_35 : xAt kT54 35 (.getfield 24) 38 := ⟨3, rfl, Or.inr rfl, rfl⟩
set_option maxRecDepth 100000 in
theorem lk54_38 : xAt kT54 38 (.iconst 0) 39 := ⟨1, rfl, Or.inr rfl, rfl⟩
set_option maxRecDepth 100000 in
theorem lk54_39 : xAt kT54 39 (.invokestatic 41) 42 := ⟨3, rfl, Or.inr rfl, rfl⟩
set_option maxRecDepth 100000 in
theorem lk54_42 : xAt kT54 42 (.aload_n 0) 43 := ⟨1, rfl, Or.inr rfl, rfl⟩
set_option maxRecDepth 100000 in
theorem lk54_43 : xAt kT54 43 (.getfield 27) 46 := ⟨3, rfl, Or.inr rfl, rfl⟩
set_option maxRecDepth 100000 in
theorem lk54_46 : xAt kT54 46 (.iload_n 2) 47 := ⟨1, rfl, Or.inr rfl, rfl⟩
set_option maxRecDepth 100000 in
theorem lk54_47 : xAt kT54 47 (.invokestatic 41) 50 := ⟨3, rfl, Or.inr rfl, rfl⟩
set_option maxRecDepth 100000 in
theorem lk54_50 : xAt kT54 50 (.iconst 0) 51 := ⟨1, rfl, Or.inr rfl, rfl⟩
set_option maxRecDepth 100000 in
theorem lk54_51 : xAt kT54 51 (.istore_n 3) 52 := ⟨1, rfl, Or.inr rfl, rfl⟩
set_option maxRecDepth 100000 in
theorem lk54_52 : xAt kT54 52 (.iload_n 3) 53 := ⟨1, rfl, Or.inr rfl, rfl⟩
set_option maxRecDepth 100000 in
theorem lk54_53 : xAt kT54 53 (.bipush 7) 55 := ⟨2, rfl, Or.inr rfl, rfl⟩
set_option maxRecDepth 100000 in
theorem lk54_55 : xAt kT54 55 (.if_icmp .ge 23) 58 := ⟨3, rfl, Or.inr rfl, rfl⟩
set_option maxRecDepth 100000 in
theorem lk54_58 : xAt kT54 58 (.aload_n 0) 59 := ⟨1, rfl, Or.inr rfl, rfl⟩
set_option maxRecDepth 100000 in
theorem lk54_59 : xAt kT54 59 (.getfield 30) 62 := ⟨3, rfl, Or.inr rfl, rfl⟩
set_option maxRecDepth 100000 in
theorem lk54_62 : xAt kT54 62 (.iload_n 3) 63 := ⟨1, rfl, Or.inr rfl, rfl⟩
set_option maxRecDepth 100000 in
theorem lk54_63 : xAt kT54 63 (.iconst 1) 64 := ⟨1, rfl, Or.inr rfl, rfl⟩
set_option maxRecDepth 100000 in
theorem lk54_64 : xAt kT54 64 (.bastore) 65 := ⟨1, rfl, Or.inr rfl, rfl⟩
set_option maxRecDepth 100000 in
theorem lk54_65 : xAt kT54 65 (.aload_n 0) 66 := ⟨1, rfl, Or.inr rfl, rfl⟩
set_option maxRecDepth 100000 in
theorem lk54_66 : xAt kT54 66 (.getfield 34) 69 := ⟨3, rfl, Or.inr rfl, rfl⟩
set_option maxRecDepth 100000 in
theorem lk54_69 : xAt kT54 69 (.iload_n 3) 70 := ⟨1, rfl, Or.inr rfl, rfl⟩
set_option maxRecDepth 100000 in
theorem lk54_70 : xAt kT54 70 (.iconst 0) 71 := ⟨1, rfl, Or.inr rfl, rfl⟩
set_option maxRecDepth 100000 in
theorem lk54_71 : xAt kT54 71 (.bastore) 72 := ⟨1, rfl, Or.inr rfl, rfl⟩
set_option maxRecDepth 100000 in
theorem lk54_72 : xAt kT54 72 (.iinc 3 1) 75 := ⟨3, rfl, Or.inr rfl, rfl⟩
set_option maxRecDepth 100000 in
theorem lk54_75 : xAt kT54 75 (.goto (-23)) 78 := ⟨3, rfl, Or.inr rfl, rfl⟩
set_option maxRecDepth 100000 in
theorem lk54_78 : xAt kT54 78 (.aload_n 0) 79 := ⟨1, rfl, Or.inr rfl, rfl⟩
set_option maxRecDepth 100000 in
theorem lk54_79 : xAt kT54 79 (.iload_n 1) 80 := ⟨1, rfl, Or.inr rfl, rfl⟩
set_option maxRecDepth 100000 in
theorem lk54_80 : xAt kT54 80 (.iconst 1) 81 := ⟨1, rfl, Or.inr rfl, rfl⟩
set_option maxRecDepth 100000 in
theorem lk54_81 : xAt kT54 81 (.iadd) 82 := ⟨1, rfl, Or.inr rfl, rfl⟩
set_option maxRecDepth 100000 in
theorem lk54_82 : xAt kT54 82 (.putfield 47) 85 := ⟨3, rfl, Or.inr rfl, rfl⟩
set_option maxRecDepth 100000 in
theorem lk54_85 : xAt kT54 85 (.aload_n 0) 86 := ⟨1, rfl, Or.inr rfl, rfl⟩
set_option maxRecDepth 100000 in
theorem lk54_86 : xAt kT54 86 (.iconst 0) 87 := ⟨1, rfl, Or.inr rfl, rfl⟩
set_option maxRecDepth 100000 in
theorem lk54_87 : xAt kT54 87 (.putfield 50) 90 := ⟨3, rfl, Or.inr rfl, rfl⟩
set_option maxRecDepth 100000 in
theorem lk54_90 : xAt kT54 90 (.aload_n 0) 91 := ⟨1, rfl, Or.inr rfl, rfl⟩
set_option maxRecDepth 100000 in
theorem lk54_91 : xAt kT54 91 (.iconst (-1)) 92 := ⟨1, rfl, Or.inr rfl, rfl⟩
set_option maxRecDepth 100000 in
theorem lk54_92 : xAt kT54 92 (.putfield 37) 95 := ⟨3, rfl, Or.inr rfl, rfl⟩
set_option maxRecDepth 100000 in
theorem lk54_95 : xAt kT54 95 (.return_) 96 := ⟨1, rfl, Or.inr rfl, rfl⟩
set_option maxRecDepth 100000 in
theorem lk63_0 : xAt kT63 0 (.iload_n 1) 1 := ⟨1, rfl, Or.inr rfl, rfl⟩
set_option maxRecDepth 100000 in
theorem lk63_1 : xAt kT63 1 (.aload_n 0) 2 := ⟨1, rfl, Or.inr rfl, rfl⟩
set_option maxRecDepth 100000 in
theorem lk63_2 : xAt kT63 2 (.getfield 28) 5 := ⟨3, rfl, Or.inr rfl, rfl⟩
set_option maxRecDepth 100000 in
theorem lk63_5 : xAt kT63 5 (.isub) 6 := ⟨1, rfl, Or.inr rfl, rfl⟩
set_option maxRecDepth 100000 in
theorem lk63_6 : xAt kT63 6 (.iconst 1) 7 := ⟨1, rfl, Or.inr rfl, rfl⟩
set_option maxRecDepth 100000 in
theorem lk63_7 : xAt kT63 7 (.isub) 8 := ⟨1, rfl, Or.inr rfl, rfl⟩
set_option maxRecDepth 100000 in
theorem lk63_8 : xAt kT63 8 (.bipush 6) 10 := ⟨2, rfl, Or.inr rfl, rfl⟩
set_option maxRecDepth 100000 in
theorem lk63_10 : xAt kT63 10 (.imul) 11 := ⟨1, rfl, Or.inr rfl, rfl⟩
set_option maxRecDepth 100000 in
theorem lk63_11 : xAt kT63 11 (.ireturn) 12 := ⟨1, rfl, Or.inr rfl, rfl⟩
set_option maxRecDepth 100000 in
theorem lk70_0 : xAt kT70 0 (.iload_n 1) 1 := ⟨1, rfl, Or.inr rfl, rfl⟩
set_option maxRecDepth 100000 in
theorem lk70_1 : xAt kT70 1 (.aload_n 0) 2 := ⟨1, rfl, Or.inr rfl, rfl⟩
set_option maxRecDepth 100000 in
theorem lk70_2 : xAt kT70 2 (.getfield 34) 5 := ⟨3, rfl, Or.inr rfl, rfl⟩
set_option maxRecDepth 100000 in
theorem lk70_5 : xAt kT70 5 (.invokestatic 70) 8 := ⟨3, rfl, Or.inr rfl, rfl⟩
set_option maxRecDepth 100000 in
theorem lk70_8 : xAt kT70 8 (.aload_n 0) 9 := ⟨1, rfl, Or.inr rfl, rfl⟩
set_option maxRecDepth 100000 in
theorem lk70_9 : xAt kT70 9 (.getfield 28) 12 := ⟨3, rfl, Or.inr rfl, rfl⟩
set_option maxRecDepth 100000 in
theorem lk70_12 : xAt kT70 12 (.isub) 13 := ⟨1, rfl, Or.inr rfl, rfl⟩
set_option maxRecDepth 100000 in
theorem lk70_13 : xAt kT70 13 (.iconst 1) 14 := ⟨1, rfl, Or.inr rfl, rfl⟩
set_option maxRecDepth 100000 in
theorem lk70_14 : xAt kT70 14 (.isub) 15 := ⟨1, rfl, Or.inr rfl, rfl⟩
set_option maxRecDepth 100000 in
theorem lk70_15 : xAt kT70 15 (.istore_n 2) 16 := ⟨1, rfl, Or.inr rfl, rfl⟩
set_option maxRecDepth 100000 in
theorem lk70_16 : xAt kT70 16 (.iload_n 2) 17 := ⟨1, rfl, Or.inr rfl, rfl⟩
set_option maxRecDepth 100000 in
theorem lk70_17 : xAt kT70 17 (.ifCond .lt 24) 20 := ⟨3, rfl, Or.inr rfl, rfl⟩
set_option maxRecDepth 100000 in
theorem lk70_20 : xAt kT70 20 (.aload_n 0) 21 := ⟨1, rfl, Or.inr rfl, rfl⟩
set_option maxRecDepth 100000 in
theorem lk70_21 : xAt kT70 21 (.getfield 9) 24 := ⟨3, rfl, Or.inr rfl, rfl⟩
set_option maxRecDepth 100000 in
theorem lk70_24 : xAt kT70 24 (.iload_n 2) 25 := ⟨1, rfl, Or.inr rfl, rfl⟩
set_option maxRecDepth 100000 in
theorem lk70_25 : xAt kT70 25 (.bipush 6) 27 := ⟨2, rfl, Or.inr rfl, rfl⟩
set_option maxRecDepth 100000 in
theorem lk70_27 : xAt kT70 27 (.imul) 28 := ⟨1, rfl, Or.inr rfl, rfl⟩
set_option maxRecDepth 100000 in
theorem lk70_28 : xAt kT70 28 (.iconst 1) 29 := ⟨1, rfl, Or.inr rfl, rfl⟩
set_option maxRecDepth 100000 in
theorem lk70_29 : xAt kT70 29 (.iadd) 30 := ⟨1, rfl, Or.inr rfl, rfl⟩
set_option maxRecDepth 100000 in
theorem lk70_30 : xAt kT70 30 (.iaload) 31 := ⟨1, rfl, Or.inr rfl, rfl⟩
set_option maxRecDepth 100000 in
theorem lk70_31 : xAt kT70 31 (.iconst 1) 32 := ⟨1, rfl, Or.inr rfl, rfl⟩
set_option maxRecDepth 100000 in
theorem lk70_32 : xAt kT70 32 (.if_icmp .eq 9) 35 := ⟨3, rfl, Or.inr rfl, rfl⟩
set_option maxRecDepth 100000 in
theorem lk70_35 : xAt kT70 35 (.iinc 2 (-1)) 38 := ⟨3, rfl, Or.inr rfl, rfl⟩
set_option maxRecDepth 100000 in
theorem lk70_38 : xAt kT70 38 (.goto (-22)) 41 := ⟨3, rfl, Or.inr rfl, rfl⟩
set_option maxRecDepth 100000 in
theorem lk70_41 : xAt kT70 41 (.aload_n 0) 42 := ⟨1, rfl, Or.inr rfl, rfl⟩
set_option maxRecDepth 100000 in
theorem lk70_42 : xAt kT70 42 (.getfield 28) 45 := ⟨3, rfl, Or.inr rfl, rfl⟩
set_option maxRecDepth 100000 in
theorem lk70_45 : xAt kT70 45 (.iconst 1) 46 := ⟨1, rfl, Or.inr rfl, rfl⟩
set_option maxRecDepth 100000 in
theorem lk70_46 : xAt kT70 46 (.iadd) 47 := ⟨1, rfl, Or.inr rfl, rfl⟩
set_option maxRecDepth 100000 in
theorem lk70_47 : xAt kT70 47 (.iconst (-1)) 48 := ⟨1, rfl, Or.inr rfl, rfl⟩
set_option maxRecDepth 100000 in
theorem lk70_48 : xAt kT70 48 (.iload_n 2) 49 := ⟨1, rfl, Or.inr rfl, rfl⟩
set_option maxRecDepth 100000 in
theorem lk70_49 : xAt kT70 49 (.invokestatic 48) 52 := ⟨3, rfl, Or.inr rfl, rfl⟩
set_option maxRecDepth 100000 in
theorem lk70_52 : xAt kT70 52 (.iadd) 53 := ⟨1, rfl, Or.inr rfl, rfl⟩
set_option maxRecDepth 100000 in
theorem lk70_53 : xAt kT70 53 (.ireturn) 54 := ⟨1, rfl, Or.inr rfl, rfl⟩
set_option maxRecDepth 100000 in
theorem lk66_0 : xAt kT66 0 (.aload_n 0) 1 := ⟨1, rfl, Or.inr rfl, rfl⟩
set_option maxRecDepth 100000 in
theorem lk66_1 : xAt kT66 1 (.aload_n 0) 2 := ⟨1, rfl, Or.inr rfl, rfl⟩
set_option maxRecDepth 100000 in
theorem lk66_2 : xAt kT66 2 (.aload_n 0) 3 := ⟨1, rfl, Or.inr rfl, rfl⟩
set_option maxRecDepth 100000 in
theorem lk66_3 : xAt kT66 3 (.getfield 34) 6 := ⟨3, rfl, Or.inr rfl, rfl⟩
set_option maxRecDepth 100000 in
theorem lk66_6 : xAt kT66 6 (.invokevirtual 76) 9 := ⟨3, rfl, Or.inr rfl, rfl⟩
set_option maxRecDepth 100000 in
theorem lk66_9 : xAt kT66 9 (.putfield 67) 12 := ⟨3, rfl, Or.inr rfl, rfl⟩
set_option maxRecDepth 100000 in
theorem lk66_12 : xAt kT66 12 (.aload_n 0) 13 := ⟨1, rfl, Or.inr rfl, rfl⟩
set_option maxRecDepth 100000 in
theorem lk66_13 : xAt kT66 13 (.aload_n 0) 14 := ⟨1, rfl, Or.inr rfl, rfl⟩
set_option maxRecDepth 100000 in
theorem lk66_14 : xAt kT66 14 (.getfield 67) 17 := ⟨3, rfl, Or.inr rfl, rfl⟩
set_option maxRecDepth 100000 in
theorem lk66_17 : xAt kT66 17 (.aload_n 0) 18 := ⟨1, rfl, Or.inr rfl, rfl⟩
set_option maxRecDepth 100000 in
theorem lk66_18 : xAt kT66 18 (.getfield 28) 21 := ⟨3, rfl, Or.inr rfl, rfl⟩
set_option maxRecDepth 100000 in
theorem lk66_21 : xAt kT66 21 (.if_icmp .ne 10) 24 := ⟨3, rfl, Or.inr rfl, rfl⟩
set_option maxRecDepth 100000 in
theorem lk66_24 : xAt kT66 24 (.aload_n 0) 25 := ⟨1, rfl, Or.inr rfl, rfl⟩
set_option maxRecDepth 100000 in
theorem lk66_25 : xAt kT66 25 (.getfield 22) 28 := ⟨3, rfl, Or.inr rfl, rfl⟩
set_option maxRecDepth 100000 in
theorem lk66_28 : xAt kT66 28 (.goto 18) 31 := ⟨3, rfl, Or.inr rfl, rfl⟩
set_option maxRecDepth 100000 in
theorem lk66_31 : xAt kT66 31 (.aload_n 0) 32 := ⟨1, rfl, Or.inr rfl, rfl⟩
set_option maxRecDepth 100000 in
theorem lk66_32 : xAt kT66 32 (.getfield 9) 35 := ⟨3, rfl, Or.inr rfl, rfl⟩
set_option maxRecDepth 100000 in
theorem lk66_35 : xAt kT66 35 (.aload_n 0) 36 := ⟨1, rfl, Or.inr rfl, rfl⟩
set_option maxRecDepth 100000 in
theorem lk66_36 : xAt kT66 36 (.aload_n 0) 37 := ⟨1, rfl, Or.inr rfl, rfl⟩
set_option maxRecDepth 100000 in
theorem lk66_37 : xAt kT66 37 (.getfield 67) 40 := ⟨3, rfl, Or.inr rfl, rfl⟩
set_option maxRecDepth 100000 in
theorem lk66_40 : xAt kT66 40 (.invokevirtual 44) 43 := ⟨3, rfl, Or.inr rfl, rfl⟩
set_option maxRecDepth 100000 in
theorem lk66_43 : xAt kT66 43 (.iconst 3) 44 := ⟨1, rfl, Or.inr rfl, rfl⟩
set_option maxRecDepth 100000 in
theorem lk66_44 : xAt kT66 44 (.iadd) 45 := ⟨1, rfl, Or.inr rfl, rfl⟩
set_option maxRecDepth 100000 in
theorem lk66_45 : xAt kT66 45 (.iaload) 46 := ⟨1, rfl, Or.inr rfl, rfl⟩
set_option maxRecDepth 100000 in
theorem lk66_46 : xAt kT66 46 (.putfield 25) 49 := ⟨3, rfl, Or.inr rfl, rfl⟩
set_option maxRecDepth 100000 in
theorem lk66_49 : xAt kT66 49 (.return_) 50 := ⟨1, rfl, Or.inr rfl, rfl⟩
set_option maxRecDepth 100000 in
theorem lk64_0 : xAt kT64 0 (.aload_n 0) 1 := ⟨1, rfl, Or.inr rfl, rfl⟩
set_option maxRecDepth 100000 in
theorem lk64_1 : xAt kT64 1 (.iconst 0) 2 := ⟨1, rfl, Or.inr rfl, rfl⟩
set_option maxRecDepth 100000 in
theorem lk64_2 : xAt kT64 2 (.putfield 28) 5 := ⟨3, rfl, Or.inr rfl, rfl⟩
set_option maxRecDepth 100000 in
theorem lk64_5 : xAt kT64 5 (.aload_n 0) 6 := ⟨1, rfl, Or.inr rfl, rfl⟩
set_option maxRecDepth 100000 in
theorem lk64_6 : xAt kT64 6 (.iconst 0) 7 := ⟨1, rfl, Or.inr rfl, rfl⟩
set_option maxRecDepth 100000 in
theorem lk64_7 : xAt kT64 7 (.putfield 31) 10 := ⟨3, rfl, Or.inr rfl, rfl⟩
set_option maxRecDepth 100000 in
theorem lk64_10 : xAt kT64 10 (.aload_n 0) 11 := ⟨1, rfl, Or.inr rfl, rfl⟩
set_option maxRecDepth 100000 in
theorem lk64_11 : xAt kT64 11 (.aload_n 0) 12 := ⟨1, rfl, Or.inr rfl, rfl⟩
set_option maxRecDepth 100000 in
theorem lk64_12 : xAt kT64 12 (.getfield 18) 15 := ⟨3, rfl, Or.inr rfl, rfl⟩
set_option maxRecDepth 100000 in
theorem lk64_15 : xAt kT64 15 (.putfield 22) 18 := ⟨3, rfl, Or.inr rfl, rfl⟩
set_option maxRecDepth 100000 in
theorem lk64_18 : xAt kT64 18 (.aload_n 0) 19 := ⟨1, rfl, Or.inr rfl, rfl⟩
set_option maxRecDepth 100000 in
theorem lk64_19 : xAt kT64 19 (.iconst 0) 20 := ⟨1, rfl, Or.inr rfl, rfl⟩
set_option maxRecDepth 100000 in
theorem lk64_20 : xAt kT64 20 (.putfield 34) 23 := ⟨3, rfl, Or.inr rfl, rfl⟩
set_option maxRecDepth 100000 in
theorem lk64_23 : xAt kT64 23 (.aload_n 0) 24 := ⟨1, rfl, Or.inr rfl, rfl⟩
set_option maxRecDepth 100000 in
theorem lk64_24 : xAt kT64 24 (.invokevirtual 37) 27 := ⟨3, rfl, Or.inr rfl, rfl⟩
set_option maxRecDepth 100000 in
theorem lk64_27 : xAt kT64 27 (.return_) 28 := ⟨1, rfl, Or.inr rfl, rfl⟩
set_option maxRecDepth 100000 in
theorem lk65_0 : xAt kT65 0 (.aload_n 0) 1 := ⟨1, rfl, Or.inr rfl, rfl⟩
set_option maxRecDepth 100000 in
theorem lk65_1 : xAt kT65 1 (.aload_n 0) 2 := ⟨1, rfl, Or.inr rfl, rfl⟩
set_option maxRecDepth 100000 in
theorem lk65_2 : xAt kT65 2 (.getfield 28) 5 := ⟨3, rfl, Or.inr rfl, rfl⟩
set_option maxRecDepth 100000 in
theorem lk65_5 : xAt kT65 5 (.aload_n 0) 6 := ⟨1, rfl, Or.inr rfl, rfl⟩
set_option maxRecDepth 100000 in
theorem lk65_6 : xAt kT65 6 (.getfield 34) 9 := ⟨3, rfl, Or.inr rfl, rfl⟩
set_option maxRecDepth 100000 in
theorem lk65_9 : xAt kT65 9 (.iload_n 1) 10 := ⟨1, rfl, Or.inr rfl, rfl⟩
set_option maxRecDepth 100000 in
theorem lk65_10 : xAt kT65 10 (.iconst 1) 11 := ⟨1, rfl, Or.inr rfl, rfl⟩
set_option maxRecDepth 100000 in
theorem lk65_11 : xAt kT65 11 (.isub) 12 := ⟨1, rfl, Or.inr rfl, rfl⟩
set_option maxRecDepth 100000 in
theorem lk65_12 : xAt kT65 12 (.invokestatic 70) 15 := ⟨3, rfl, Or.inr rfl, rfl⟩
set_option maxRecDepth 100000 in
theorem lk65_15 : xAt kT65 15 (.invokestatic 48) 18 := ⟨3, rfl, Or.inr rfl, rfl⟩
set_option maxRecDepth 100000 in
theorem lk65_18 : xAt kT65 18 (.putfield 34) 21 := ⟨3, rfl, Or.inr rfl, rfl⟩
set_option maxRecDepth 100000 in
theorem lk65_21 : xAt kT65 21 (.aload_n 0) 22 := ⟨1, rfl, Or.inr rfl, rfl⟩
set_option maxRecDepth 100000 in
theorem lk65_22 : xAt kT65 22 (.aload_n 0) 23 := ⟨1, rfl, Or.inr rfl, rfl⟩
set_option maxRecDepth 100000 in
theorem lk65_23 : xAt kT65 23 (.getfield 73) 26 := ⟨3, rfl, Or.inr rfl, rfl⟩
set_option maxRecDepth 100000 in
theorem lk65_26 : xAt kT65 26 (.aload_n 0) 27 := ⟨1, rfl, Or.inr rfl, rfl⟩
set_option maxRecDepth 100000 in
theorem lk65_27 : xAt kT65 27 (.getfield 34) 30 := ⟨3, rfl, Or.inr rfl, rfl⟩
set_option maxRecDepth 100000 in
theorem lk65_30 : xAt kT65 30 (.invokestatic 70) 33 := ⟨3, rfl, Or.inr rfl, rfl⟩
set_option maxRecDepth 100000 in
theorem lk65_33 : xAt kT65 33 (.putfield 73) 36 := ⟨3, rfl, Or.inr rfl, rfl⟩
set_option maxRecDepth 100000 in
theorem lk65_36 : xAt kT65 36 (.aload_n 0) 37 := ⟨1, rfl, Or.inr rfl, rfl⟩
set_option maxRecDepth 100000 in
theorem lk65_37 : xAt kT65 37 (.invokevirtual 37) 40 := ⟨3, rfl, Or.inr rfl, rfl⟩
set_option maxRecDepth 100000 in
theorem lk65_40 : xAt kT65 40 (.return_) 41 := ⟨1, rfl, Or.inr rfl, rfl⟩
set_option maxRecDepth 100000 in
theorem lk67_0 : xAt kT67 0 (.iload_n 1) 1 := ⟨1, rfl, Or.inr rfl, rfl⟩
set_option maxRecDepth 100000 in
theorem lk67_1 : xAt kT67 1 (.aload_n 0) 2 := ⟨1, rfl, Or.inr rfl, rfl⟩
set_option maxRecDepth 100000 in
theorem lk67_2 : xAt kT67 2 (.getfield 28) 5 := ⟨3, rfl, Or.inr rfl, rfl⟩
set_option maxRecDepth 100000 in
theorem lk67_5 : xAt kT67 5 (.if_icmp .le 15) 8 := ⟨3, rfl, Or.inr rfl, rfl⟩
set_option maxRecDepth 100000 in
theorem lk67_8 : xAt kT67 8 (.iload_n 1) 9 := ⟨1, rfl, Or.inr rfl, rfl⟩
set_option maxRecDepth 100000 in
theorem lk67_9 : xAt kT67 9 (.aload_n 0) 10 := ⟨1, rfl, Or.inr rfl, rfl⟩
set_option maxRecDepth 100000 in
theorem lk67_10 : xAt kT67 10 (.getfield 34) 13 := ⟨3, rfl, Or.inr rfl, rfl⟩
set_option maxRecDepth 100000 in
theorem lk67_13 : xAt kT67 13 (.if_icmp .gt 7) 16 := ⟨3, rfl, Or.inr rfl, rfl⟩
set_option maxRecDepth 100000 in
theorem lk67_16 : xAt kT67 16 (.iconst 1) 17 := ⟨1, rfl, Or.inr rfl, rfl⟩
set_option maxRecDepth 100000 in
theorem lk67_17 : xAt kT67 17 (.goto 4) 20 := ⟨3, rfl, Or.inr rfl, rfl⟩
set_option maxRecDepth 100000 in
theorem lk67_20 : xAt kT67 20 (.iconst 0) 21 := ⟨1, rfl, Or.inr rfl, rfl⟩
set_option maxRecDepth 100000 in
theorem lk67_21 : xAt kT67 21 (.ireturn) 22 := ⟨1, rfl, Or.inr rfl, rfl⟩
set_option maxRecDepth 100000 in
theorem lk69_0 : xAt kT69 0 (.aload_n 0) 1 := ⟨1, rfl, Or.inr rfl, rfl⟩
set_option maxRecDepth 100000 in
theorem lk69_1 : xAt kT69 1 (.getfield 34) 4 := ⟨3, rfl, Or.inr rfl, rfl⟩
set_option maxRecDepth 100000 in
theorem lk69_4 : xAt kT69 4 (.aload_n 0) 5 := ⟨1, rfl, Or.inr rfl, rfl⟩
set_option maxRecDepth 100000 in
theorem lk69_5 : xAt kT69 5 (.getfield 28) 8 := ⟨3, rfl, Or.inr rfl, rfl⟩
set_option maxRecDepth 100000 in
theorem lk69_8 : xAt kT69 8 (.isub) 9 := ⟨1, rfl, Or.inr rfl, rfl⟩
set_option maxRecDepth 100000 in
theorem lk69_9 : xAt kT69 9 (.ireturn) 10 := ⟨1, rfl, Or.inr rfl, rfl⟩
set_option maxRecDepth 100000 in
theorem lk71_0 : xAt kT71 0 (.aload_n 0) 1 := ⟨1, rfl, Or.inr rfl, rfl⟩
set_option maxRecDepth 100000 in
theorem lk71_1 : xAt kT71 1 (.iload_n 1) 2 := ⟨1, rfl, Or.inr rfl, rfl⟩
set_option maxRecDepth 100000 in
theorem lk71_2 : xAt kT71 2 (.invokevirtual 76) 5 := ⟨3, rfl, Or.inr rfl, rfl⟩
set_option maxRecDepth 100000 in
theorem lk71_5 : xAt kT71 5 (.istore_n 2) 6 := ⟨1, rfl, Or.inr rfl, rfl⟩
set_option maxRecDepth 100000 in
theorem lk71_6 : xAt kT71 6 (.iload_n 2) 7 := ⟨1, rfl, Or.inr rfl, rfl⟩
set_option maxRecDepth 100000 in
theorem lk71_7 : xAt kT71 7 (.aload_n 0) 8 := ⟨1, rfl, Or.inr rfl, rfl⟩
set_option maxRecDepth 100000 in
theorem lk71_8 : xAt kT71 8 (.getfield 28) 11 := ⟨3, rfl, Or.inr rfl, rfl⟩
set_option maxRecDepth 100000 in
theorem lk71_11 : xAt kT71 11 (.if_icmp .ne 10) 14 := ⟨3, rfl, Or.inr rfl, rfl⟩
set_option maxRecDepth 100000 in
theorem lk71_14 : xAt kT71 14 (.aload_n 0) 15 := ⟨1, rfl, Or.inr rfl, rfl⟩
set_option maxRecDepth 100000 in
theorem lk71_15 : xAt kT71 15 (.getfield 22) 18 := ⟨3, rfl, Or.inr rfl, rfl⟩
set_option maxRecDepth 100000 in
theorem lk71_18 : xAt kT71 18 (.goto 15) 21 := ⟨3, rfl, Or.inr rfl, rfl⟩
set_option maxRecDepth 100000 in
theorem lk71_21 : xAt kT71 21 (.aload_n 0) 22 := ⟨1, rfl, Or.inr rfl, rfl⟩
set_option maxRecDepth 100000 in
theorem lk71_22 : xAt kT71 22 (.getfield 9) 25 := ⟨3, rfl, Or.inr rfl, rfl⟩
set_option maxRecDepth 100000 in
theorem lk71_25 : xAt kT71 25 (.aload_n 0) 26 := ⟨1, rfl, Or.inr rfl, rfl⟩
set_option maxRecDepth 100000 in
theorem lk71_26 : xAt kT71 26 (.iload_n 2) 27 := ⟨1, rfl, Or.inr rfl, rfl⟩
set_option maxRecDepth 100000 in
theorem lk71_27 : xAt kT71 27 (.invokevirtual 44) 30 := ⟨3, rfl, Or.inr rfl, rfl⟩
set_option maxRecDepth 100000 in
theorem lk71_30 : xAt kT71 30 (.iconst 3) 31 := ⟨1, rfl, Or.inr rfl, rfl⟩
set_option maxRecDepth 100000 in
theorem lk71_31 : xAt kT71 31 (.iadd) 32 := ⟨1, rfl, Or.inr rfl, rfl⟩
set_option maxRecDepth 100000 in
theorem lk71_32 : xAt kT71 32 (.iaload) 33 := ⟨1, rfl, Or.inr rfl, rfl⟩
set_option maxRecDepth 100000 in
theorem lk71_33 : xAt kT71 33 (.ireturn) 34 := ⟨1, rfl, Or.inr rfl, rfl⟩
set_option maxRecDepth 100000 in
theorem lk75_0 : xAt kT75 0 (.iload_n 1) 1 := ⟨1, rfl, Or.inr rfl, rfl⟩
set_option maxRecDepth 100000 in
theorem lk75_1 : xAt kT75 1 (.aload_n 0) 2 := ⟨1, rfl, Or.inr rfl, rfl⟩
set_option maxRecDepth 100000 in
theorem lk75_2 : xAt kT75 2 (.getfield 28) 5 := ⟨3, rfl, Or.inr rfl, rfl⟩
set_option maxRecDepth 100000 in
theorem lk75_5 : xAt kT75 5 (.if_icmp .ne 8) 8 := ⟨3, rfl, Or.inr rfl, rfl⟩
set_option maxRecDepth 100000 in
theorem lk75_8 : xAt kT75 8 (.aload_n 0) 9 := ⟨1, rfl, Or.inr rfl, rfl⟩
set_option maxRecDepth 100000 in
theorem lk75_9 : xAt kT75 9 (.getfield 31) 12 := ⟨3, rfl, Or.inr rfl, rfl⟩
set_option maxRecDepth 100000 in
theorem lk75_12 : xAt kT75 12 (.ireturn) 13 := ⟨1, rfl, Or.inr rfl, rfl⟩
set_option maxRecDepth 100000 in
theorem lk75_13 : xAt kT75 13 (.aload_n 0) 14 := ⟨1, rfl, Or.inr rfl, rfl⟩
set_option maxRecDepth 100000 in
theorem lk75_14 : xAt kT75 14 (.iload_n 1) 15 := ⟨1, rfl, Or.inr rfl, rfl⟩
set_option maxRecDepth 100000 in
theorem lk75_15 : xAt kT75 15 (.invokevirtual 40) 18 := ⟨3, rfl, Or.inr rfl, rfl⟩
set_option maxRecDepth 100000 in
theorem lk75_18 : xAt kT75 18 (.ifCond .eq 18) 21 := ⟨3, rfl, Or.inr rfl, rfl⟩
set_option maxRecDepth 100000 in
theorem lk75_21 : xAt kT75 21 (.aload_n 0) 22 := ⟨1, rfl, Or.inr rfl, rfl⟩
set_option maxRecDepth 100000 in
theorem lk75_22 : xAt kT75 22 (.getfield 9) 25 := ⟨3, rfl, Or.inr rfl, rfl⟩
set_option maxRecDepth 100000 in
theorem lk75_25 : xAt kT75 25 (.aload_n 0) 26 := ⟨1, rfl, Or.inr rfl, rfl⟩
set_option maxRecDepth 100000 in
theorem lk75_26 : xAt kT75 26 (.iload_n 1) 27 := ⟨1, rfl, Or.inr rfl, rfl⟩
set_option maxRecDepth 100000 in
theorem lk75_27 : xAt kT75 27 (.invokevirtual 44) 30 := ⟨3, rfl, Or.inr rfl, rfl⟩
set_option maxRecDepth 100000 in
theorem lk75_30 : xAt kT75 30 (.iconst 0) 31 := ⟨1, rfl, Or.inr rfl, rfl⟩
set_option maxRecDepth 100000 in
theorem lk75_31 : xAt kT75 31 (.iadd) 32 := ⟨1, rfl, Or.inr rfl, rfl⟩
set_option maxRecDepth 100000 in
theorem lk75_32 : xAt kT75 32 (.iaload) 33 := ⟨1, rfl, Or.inr rfl, rfl⟩
set_option maxRecDepth 100000 in
theorem lk75_33 : xAt kT75 33 (.goto 4) 36 := ⟨3, rfl, Or.inr rfl, rfl⟩
set_option maxRecDepth 100000 in
theorem lk75_36 : xAt kT75 36 (.iconst (-1)) 37 := ⟨1, rfl, Or.inr rfl, rfl⟩
set_option maxRecDepth 100000 in
theorem lk75_37 : xAt kT75 37 (.ireturn) 38 := ⟨1, rfl, Or.inr rfl, rfl⟩
set_option maxRecDepth 100000 in
theorem lk72_0 : xAt kT72 0 (.aload_n 0) 1 := ⟨1, rfl, Or.inr rfl, rfl⟩
set_option maxRecDepth 100000 in
theorem lk72_1 : xAt kT72 1 (.iload_n 1) 2 := ⟨1, rfl, Or.inr rfl, rfl⟩
set_option maxRecDepth 100000 in
theorem lk72_2 : xAt kT72 2 (.invokevirtual 54) 5 := ⟨3, rfl, Or.inr rfl, rfl⟩
set_option maxRecDepth 100000 in
theorem lk72_5 : xAt kT72 5 (.iload_n 2) 6 := ⟨1, rfl, Or.inr rfl, rfl⟩
set_option maxRecDepth 100000 in
theorem lk72_6 : xAt kT72 6 (.if_icmp .ne 12) 9 := ⟨3, rfl, Or.inr rfl, rfl⟩
set_option maxRecDepth 100000 in
theorem lk72_9 : xAt kT72 9 (.aload_n 0) 10 := ⟨1, rfl, Or.inr rfl, rfl⟩
set_option maxRecDepth 100000 in
theorem lk72_10 : xAt kT72 10 (.getfield 34) 13 := ⟨3, rfl, Or.inr rfl, rfl⟩
set_option maxRecDepth 100000 in
theorem lk72_13 : xAt kT72 13 (.iload_n 1) 14 := ⟨1, rfl, Or.inr rfl, rfl⟩
set_option maxRecDepth 100000 in
theorem lk72_14 : xAt kT72 14 (.isub) 15 := ⟨1, rfl, Or.inr rfl, rfl⟩
set_option maxRecDepth 100000 in
theorem lk72_15 : xAt kT72 15 (.goto 4) 18 := ⟨3, rfl, Or.inr rfl, rfl⟩
set_option maxRecDepth 100000 in
theorem lk72_18 : xAt kT72 18 (.iconst 0) 19 := ⟨1, rfl, Or.inr rfl, rfl⟩
set_option maxRecDepth 100000 in
theorem lk72_19 : xAt kT72 19 (.istore 4) 21 := ⟨2, rfl, Or.inr rfl, rfl⟩
set_option maxRecDepth 100000 in
theorem lk72_21 : xAt kT72 21 (.iload 4) 23 := ⟨2, rfl, Or.inr rfl, rfl⟩
set_option maxRecDepth 100000 in
theorem lk72_23 : xAt kT72 23 (.ifCond .le 27) 26 := ⟨3, rfl, Or.inr rfl, rfl⟩
set_option maxRecDepth 100000 in
theorem lk72_26 : xAt kT72 26 (.aload_n 0) 27 := ⟨1, rfl, Or.inr rfl, rfl⟩
set_option maxRecDepth 100000 in
theorem lk72_27 : xAt kT72 27 (.getfield 9) 30 := ⟨3, rfl, Or.inr rfl, rfl⟩
set_option maxRecDepth 100000 in
theorem lk72_30 : xAt kT72 30 (.aload_n 0) 31 := ⟨1, rfl, Or.inr rfl, rfl⟩
set_option maxRecDepth 100000 in
theorem lk72_31 : xAt kT72 31 (.iload_n 1) 32 := ⟨1, rfl, Or.inr rfl, rfl⟩
set_option maxRecDepth 100000 in
theorem lk72_32 : xAt kT72 32 (.iconst 1) 33 := ⟨1, rfl, Or.inr rfl, rfl⟩
set_option maxRecDepth 100000 in
theorem lk72_33 : xAt kT72 33 (.iadd) 34 := ⟨1, rfl, Or.inr rfl, rfl⟩
set_option maxRecDepth 100000 in
theorem lk72_34 : xAt kT72 34 (.invokevirtual 44) 37 := ⟨3, rfl, Or.inr rfl, rfl⟩
set_option maxRecDepth 100000 in
theorem lk72_37 : xAt kT72 37 (.aload_n 0) 38 := ⟨1, rfl, Or.inr rfl, rfl⟩
set_option maxRecDepth 100000 in
theorem lk72_38 : xAt kT72 38 (.getfield 9) 41 := ⟨3, rfl, Or.inr rfl, rfl⟩
set_option maxRecDepth 100000 in
theorem lk72_41 : xAt kT72 41 (.iconst 0) 42 := ⟨1, rfl, Or.inr rfl, rfl⟩
set_option maxRecDepth 100000 in
theorem lk72_42 : xAt kT72 42 (.iload 4) 44 := ⟨2, rfl, Or.inr rfl, rfl⟩
set_option maxRecDepth 100000 in
theorem lk72_44 : xAt kT72 44 (.bipush 6) 46 := ⟨2, rfl, Or.inr rfl, rfl⟩
set_option maxRecDepth 100000 in
theorem lk72_46 : xAt kT72 46 (.imul) 47 := ⟨1, rfl, Or.inr rfl, rfl⟩
set_option maxRecDepth 100000 in
theorem lk72_47 : xAt kT72 47 (.invokestatic 61) 50 := ⟨3, rfl, Or.inr rfl, rfl⟩
set_option maxRecDepth 100000 in
theorem lk72_50 : xAt kT72 50 (.aload_n 0) 51 := ⟨1, rfl, Or.inr rfl, rfl⟩
set_option maxRecDepth 100000 in
theorem lk72_51 : xAt kT72 51 (.iload_n 1) 52 := ⟨1, rfl, Or.inr rfl, rfl⟩
set_option maxRecDepth 100000 in
theorem lk72_52 : xAt kT72 52 (.putfield 28) 55 := ⟨3, rfl, Or.inr rfl, rfl⟩
set_option maxRecDepth 100000 in
theorem lk72_55 : xAt kT72 55 (.aload_n 0) 56 := ⟨1, rfl, Or.inr rfl, rfl⟩
set_option maxRecDepth 100000 in
theorem lk72_56 : xAt kT72 56 (.iload_n 2) 57 := ⟨1, rfl, Or.inr rfl, rfl⟩
set_option maxRecDepth 100000 in
theorem lk72_57 : xAt kT72 57 (.putfield 31) 60 := ⟨3, rfl, Or.inr rfl, rfl⟩
set_option maxRecDepth 100000 in
theorem lk72_60 : xAt kT72 60 (.aload_n 0) 61 := ⟨1, rfl, Or.inr rfl, rfl⟩
set_option maxRecDepth 100000 in
theorem lk72_61 : xAt kT72 61 (.iload_n 3) 62 := ⟨1, rfl, Or.inr rfl, rfl⟩
set_option maxRecDepth 100000 in
theorem lk72_62 : xAt kT72 62 (.putfield 22) 65 := ⟨3, rfl, Or.inr rfl, rfl⟩
set_option maxRecDepth 100000 in
theorem lk72_65 : xAt kT72 65 (.aload_n 0) 66 := ⟨1, rfl, Or.inr rfl, rfl⟩
set_option maxRecDepth 100000 in
theorem lk72_66 : xAt kT72 66 (.iload_n 1) 67 := ⟨1, rfl, Or.inr rfl, rfl⟩
set_option maxRecDepth 100000 in
theorem lk72_67 : xAt kT72 67 (.iload 4) 69 := ⟨2, rfl, Or.inr rfl, rfl⟩
set_option maxRecDepth 100000 in
theorem lk72_69 : xAt kT72 69 (.iadd) 70 := ⟨1, rfl, Or.inr rfl, rfl⟩
set_option maxRecDepth 100000 in
theorem lk72_70 : xAt kT72 70 (.putfield 34) 73 := ⟨3, rfl, Or.inr rfl, rfl⟩
set_option maxRecDepth 100000 in
theorem lk72_73 : xAt kT72 73 (.aload_n 0) 74 := ⟨1, rfl, Or.inr rfl, rfl⟩
set_option maxRecDepth 100000 in
theorem lk72_74 : xAt kT72 74 (.aload_n 0) 75 := ⟨1, rfl, Or.inr rfl, rfl⟩
set_option maxRecDepth 100000 in
theorem lk72_75 : xAt kT72 75 (.getfield 73) 78 := ⟨3, rfl, Or.inr rfl, rfl⟩
set_option maxRecDepth 100000 in
theorem lk72_78 : xAt kT72 78 (.aload_n 0) 79 := ⟨1, rfl, Or.inr rfl, rfl⟩
set_option maxRecDepth 100000 in
theorem lk72_79 : xAt kT72 79 (.getfield 34) 82 := ⟨3, rfl, Or.inr rfl, rfl⟩
set_option maxRecDepth 100000 in
theorem lk72_82 : xAt kT72 82 (.invokestatic 70) 85 := ⟨3, rfl, Or.inr rfl, rfl⟩
set_option maxRecDepth 100000 in
theorem lk72_85 : xAt kT72 85 (.putfield 73) 88 := ⟨3, rfl, Or.inr rfl, rfl⟩
set_option maxRecDepth 100000 in
theorem lk72_88 : xAt kT72 88 (.aload_n 0) 89 := ⟨1, rfl, Or.inr rfl, rfl⟩
set_option maxRecDepth 100000 in
theorem lk72_89 : xAt kT72 89 (.invokevirtual 37) 92 := ⟨3, rfl, Or.inr rfl, rfl⟩
set_option maxRecDepth 100000 in
theorem lk72_92 : xAt kT72 92 (.return_) 93 := ⟨1, rfl, Or.inr rfl, rfl⟩
set_option maxRecDepth 100000 in
theorem lk73_0 : xAt kT73 0 (.aload_n 0) 1 := ⟨1, rfl, Or.inr rfl, rfl⟩
set_option maxRecDepth 100000 in
theorem lk73_1 : xAt kT73 1 (.getfield 15) 4 := ⟨3, rfl, Or.inr rfl, rfl⟩
set_option maxRecDepth 100000 in
theorem lk73_4 : xAt kT73 4 (.iconst 0) 5 := ⟨1, rfl, Or.inr rfl, rfl⟩
set_option maxRecDepth 100000 in
theorem lk73_5 : xAt kT73 5 (.iload_n 1) 6 := ⟨1, rfl, Or.inr rfl, rfl⟩
set_option maxRecDepth 100000 in
theorem lk73_6 : xAt kT73 6 (.iastore) 7 := ⟨1, rfl, Or.inr rfl, rfl⟩
set_option maxRecDepth 100000 in
theorem lk73_7 : xAt kT73 7 (.aload_n 0) 8 := ⟨1, rfl, Or.inr rfl, rfl⟩
set_option maxRecDepth 100000 in
theorem lk73_8 : xAt kT73 8 (.getfield 15) 11 := ⟨3, rfl, Or.inr rfl, rfl⟩
set_option maxRecDepth 100000 in
theorem lk73_11 : xAt kT73 11 (.iconst 1) 12 := ⟨1, rfl, Or.inr rfl, rfl⟩
set_option maxRecDepth 100000 in
theorem lk73_12 : xAt kT73 12 (.iload_n 2) 13 := ⟨1, rfl, Or.inr rfl, rfl⟩
set_option maxRecDepth 100000 in
theorem lk73_13 : xAt kT73 13 (.iastore) 14 := ⟨1, rfl, Or.inr rfl, rfl⟩
set_option maxRecDepth 100000 in
theorem lk73_14 : xAt kT73 14 (.aload_n 0) 15 := ⟨1, rfl, Or.inr rfl, rfl⟩
set_option maxRecDepth 100000 in
theorem lk73_15 : xAt kT73 15 (.getfield 15) 18 := ⟨3, rfl, Or.inr rfl, rfl⟩
set_option maxRecDepth 100000 in
theorem lk73_18 : xAt kT73 18 (.iconst 2) 19 := ⟨1, rfl, Or.inr rfl, rfl⟩
set_option maxRecDepth 100000 in
theorem lk73_19 : xAt kT73 19 (.iload_n 3) 20 := ⟨1, rfl, Or.inr rfl, rfl⟩
set_option maxRecDepth 100000 in
theorem lk73_20 : xAt kT73 20 (.iastore) 21 := ⟨1, rfl, Or.inr rfl, rfl⟩
set_option maxRecDepth 100000 in
theorem lk73_21 : xAt kT73 21 (.aload_n 0) 22 := ⟨1, rfl, Or.inr rfl, rfl⟩
set_option maxRecDepth 100000 in
theorem lk73_22 : xAt kT73 22 (.getfield 15) 25 := ⟨3, rfl, Or.inr rfl, rfl⟩
set_option maxRecDepth 100000 in
theorem lk73_25 : xAt kT73 25 (.iconst 3) 26 := ⟨1, rfl, Or.inr rfl, rfl⟩
set_option maxRecDepth 100000 in
theorem lk73_26 : xAt kT73 26 (.iload 4) 28 := ⟨2, rfl, Or.inr rfl, rfl⟩
set_option maxRecDepth 100000 in
theorem lk73_28 : xAt kT73 28 (.iastore) 29 := ⟨1, rfl, Or.inr rfl, rfl⟩
set_option maxRecDepth 100000 in
theorem lk73_29 : xAt kT73 29 (.aload_n 0) 30 := ⟨1, rfl, Or.inr rfl, rfl⟩
set_option maxRecDepth 100000 in
theorem lk73_30 : xAt kT73 30 (.getfield 15) 33 := ⟨3, rfl, Or.inr rfl, rfl⟩
set_option maxRecDepth 100000 in
theorem lk73_33 : xAt kT73 33 (.iconst 4) 34 := ⟨1, rfl, Or.inr rfl, rfl⟩
set_option maxRecDepth 100000 in
theorem lk73_34 : xAt kT73 34 (.iload 5) 36 := ⟨2, rfl, Or.inr rfl, rfl⟩
set_option maxRecDepth 100000 in
theorem lk73_36 : xAt kT73 36 (.iastore) 37 := ⟨1, rfl, Or.inr rfl, rfl⟩
set_option maxRecDepth 100000 in
theorem lk73_37 : xAt kT73 37 (.aload_n 0) 38 := ⟨1, rfl, Or.inr rfl, rfl⟩
set_option maxRecDepth 100000 in
theorem lk73_38 : xAt kT73 38 (.getfield 15) 41 := ⟨3, rfl, Or.inr rfl, rfl⟩
set_option maxRecDepth 100000 in
theorem lk73_41 : xAt kT73 41 (.iconst 5) 42 := ⟨1, rfl, Or.inr rfl, rfl⟩
set_option maxRecDepth 100000 in
theorem lk73_42 : xAt kT73 42 (.iload 6) 44 := ⟨2, rfl, Or.inr rfl, rfl⟩
set_option maxRecDepth 100000 in
theorem lk73_44 : xAt kT73 44 (.iastore) 45 := ⟨1, rfl, Or.inr rfl, rfl⟩
set_option maxRecDepth 100000 in
theorem lk73_45 : xAt kT73 45 (.aload_n 0) 46 := ⟨1, rfl, Or.inr rfl, rfl⟩
set_option maxRecDepth 100000 in
theorem lk73_46 : xAt kT73 46 (.getfield 15) 49 := ⟨3, rfl, Or.inr rfl, rfl⟩
set_option maxRecDepth 100000 in
theorem lk73_49 : xAt kT73 49 (.areturn) 50 := ⟨1, rfl, Or.inr rfl, rfl⟩
set_option maxRecDepth 100000 in
theorem lk74_0 : xAt kT74 0 (.iload_n 1) 1 := ⟨1, rfl, Or.inr rfl, rfl⟩
set_option maxRecDepth 100000 in
theorem lk74_1 : xAt kT74 1 (.aload_n 0) 2 := ⟨1, rfl, Or.inr rfl, rfl⟩
set_option maxRecDepth 100000 in
theorem lk74_2 : xAt kT74 2 (.getfield 28) 5 := ⟨3, rfl, Or.inr rfl, rfl⟩
set_option maxRecDepth 100000 in
theorem lk74_5 : xAt kT74 5 (.iconst 1) 6 := ⟨1, rfl, Or.inr rfl, rfl⟩
set_option maxRecDepth 100000 in
theorem lk74_6 : xAt kT74 6 (.iadd) 7 := ⟨1, rfl, Or.inr rfl, rfl⟩
set_option maxRecDepth 100000 in
theorem lk74_7 : xAt kT74 7 (.invokestatic 48) 10 := ⟨3, rfl, Or.inr rfl, rfl⟩
set_option maxRecDepth 100000 in
theorem lk74_10 : xAt kT74 10 (.istore_n 2) 11 := ⟨1, rfl, Or.inr rfl, rfl⟩
set_option maxRecDepth 100000 in
theorem lk74_11 : xAt kT74 11 (.aload_n 0) 12 := ⟨1, rfl, Or.inr rfl, rfl⟩
set_option maxRecDepth 100000 in
theorem lk74_12 : xAt kT74 12 (.iload_n 2) 13 := ⟨1, rfl, Or.inr rfl, rfl⟩
set_option maxRecDepth 100000 in
theorem lk74_13 : xAt kT74 13 (.invokevirtual 54) 16 := ⟨3, rfl, Or.inr rfl, rfl⟩
set_option maxRecDepth 100000 in
theorem lk74_16 : xAt kT74 16 (.istore_n 3) 17 := ⟨1, rfl, Or.inr rfl, rfl⟩
set_option maxRecDepth 100000 in
theorem lk74_17 : xAt kT74 17 (.iload_n 2) 18 := ⟨1, rfl, Or.inr rfl, rfl⟩
set_option maxRecDepth 100000 in
theorem lk74_18 : xAt kT74 18 (.aload_n 0) 19 := ⟨1, rfl, Or.inr rfl, rfl⟩
set_option maxRecDepth 100000 in
theorem lk74_19 : xAt kT74 19 (.getfield 28) 22 := ⟨3, rfl, Or.inr rfl, rfl⟩
set_option maxRecDepth 100000 in
theorem lk74_22 : xAt kT74 22 (.iconst 1) 23 := ⟨1, rfl, Or.inr rfl, rfl⟩
set_option maxRecDepth 100000 in
theorem lk74_23 : xAt kT74 23 (.iadd) 24 := ⟨1, rfl, Or.inr rfl, rfl⟩
set_option maxRecDepth 100000 in
theorem lk74_24 : xAt kT74 24 (.if_icmp .le 20) 27 := ⟨3, rfl, Or.inr rfl, rfl⟩
set_option maxRecDepth 100000 in
theorem lk74_27 : xAt kT74 27 (.aload_n 0) 28 := ⟨1, rfl, Or.inr rfl, rfl⟩
set_option maxRecDepth 100000 in
theorem lk74_28 : xAt kT74 28 (.iload_n 2) 29 := ⟨1, rfl, Or.inr rfl, rfl⟩
set_option maxRecDepth 100000 in
theorem lk74_29 : xAt kT74 29 (.iconst 1) 30 := ⟨1, rfl, Or.inr rfl, rfl⟩
set_option maxRecDepth 100000 in
theorem lk74_30 : xAt kT74 30 (.isub) 31 := ⟨1, rfl, Or.inr rfl, rfl⟩
set_option maxRecDepth 100000 in
theorem lk74_31 : xAt kT74 31 (.invokevirtual 54) 34 := ⟨3, rfl, Or.inr rfl, rfl⟩
set_option maxRecDepth 100000 in
theorem lk74_34 : xAt kT74 34 (.iload_n 3) 35 := ⟨1, rfl, Or.inr rfl, rfl⟩
set_option maxRecDepth 100000 in
theorem lk74_35 : xAt kT74 35 (.if_icmp .ne 9) 38 := ⟨3, rfl, Or.inr rfl, rfl⟩
set_option maxRecDepth 100000 in
theorem lk74_38 : xAt kT74 38 (.iinc 2 (-1)) 41 := ⟨3, rfl, Or.inr rfl, rfl⟩
set_option maxRecDepth 100000 in
theorem lk74_41 : xAt kT74 41 (.goto (-24)) 44 := ⟨3, rfl, Or.inr rfl, rfl⟩
set_option maxRecDepth 100000 in
theorem lk74_44 : xAt kT74 44 (.iload_n 2) 45 := ⟨1, rfl, Or.inr rfl, rfl⟩
set_option maxRecDepth 100000 in
theorem lk74_45 : xAt kT74 45 (.ireturn) 46 := ⟨1, rfl, Or.inr rfl, rfl⟩
set_option maxRecDepth 100000 in
theorem lk77_0 : xAt kT77 0 (.aload_n 0) 1 := ⟨1, rfl, Or.inr rfl, rfl⟩
set_option maxRecDepth 100000 in
theorem lk77_1 : xAt kT77 1 (.iconst 0) 2 := ⟨1, rfl, Or.inr rfl, rfl⟩
set_option maxRecDepth 100000 in
theorem lk77_2 : xAt kT77 2 (.putfield 41) 5 := ⟨3, rfl, Or.inr rfl, rfl⟩
set_option maxRecDepth 100000 in
theorem lk77_5 : xAt kT77 5 (.aload_n 0) 6 := ⟨1, rfl, Or.inr rfl, rfl⟩
set_option maxRecDepth 100000 in
theorem lk77_6 : xAt kT77 6 (.iconst 0) 7 := ⟨1, rfl, Or.inr rfl, rfl⟩
set_option maxRecDepth 100000 in
theorem lk77_7 : xAt kT77 7 (.putfield 45) 10 := ⟨3, rfl, Or.inr rfl, rfl⟩
set_option maxRecDepth 100000 in
theorem lk77_10 : xAt kT77 10 (.aload_n 0) 11 := ⟨1, rfl, Or.inr rfl, rfl⟩
set_option maxRecDepth 100000 in
theorem lk77_11 : xAt kT77 11 (.iconst 0) 12 := ⟨1, rfl, Or.inr rfl, rfl⟩
set_option maxRecDepth 100000 in
theorem lk77_12 : xAt kT77 12 (.putfield 48) 15 := ⟨3, rfl, Or.inr rfl, rfl⟩
set_option maxRecDepth 100000 in
theorem lk77_15 : xAt kT77 15 (.return_) 16 := ⟨1, rfl, Or.inr rfl, rfl⟩
set_option maxRecDepth 100000 in
theorem lk78_0 : xAt kT78 0 (.aload_n 0) 1 := ⟨1, rfl, Or.inr rfl, rfl⟩
set_option maxRecDepth 100000 in
theorem lk78_1 : xAt kT78 1 (.getfield 22) 4 := ⟨3, rfl, Or.inr rfl, rfl⟩
set_option maxRecDepth 100000 in
theorem lk78_4 : xAt kT78 4 (.iload_n 1) 5 := ⟨1, rfl, Or.inr rfl, rfl⟩
set_option maxRecDepth 100000 in
theorem lk78_5 : xAt kT78 5 (.iaload) 6 := ⟨1, rfl, Or.inr rfl, rfl⟩
set_option maxRecDepth 100000 in
theorem lk78_6 : xAt kT78 6 (.istore 4) 8 := ⟨2, rfl, Or.inr rfl, rfl⟩
set_option maxRecDepth 100000 in
theorem lk78_8 : xAt kT78 8 (.iconst 0) 9 := ⟨1, rfl, Or.inr rfl, rfl⟩
set_option maxRecDepth 100000 in
theorem lk78_9 : xAt kT78 9 (.istore 5) 11 := ⟨2, rfl, Or.inr rfl, rfl⟩
set_option maxRecDepth 100000 in
theorem lk78_11 : xAt kT78 11 (.iload 5) 13 := ⟨2, rfl, Or.inr rfl, rfl⟩
set_option maxRecDepth 100000 in
theorem lk78_13 : xAt kT78 13 (.iload 4) 15 := ⟨2, rfl, Or.inr rfl, rfl⟩
set_option maxRecDepth 100000 in
theorem lk78_15 : xAt kT78 15 (.if_icmp .ge 59) 18 := ⟨3, rfl, Or.inr rfl, rfl⟩
set_option maxRecDepth 100000 in
theorem lk78_18 : xAt kT78 18 (.iload 5) 20 := ⟨2, rfl, Or.inr rfl, rfl⟩
set_option maxRecDepth 100000 in
theorem lk78_20 : xAt kT78 20 (.iload_n 3) 21 := ⟨1, rfl, Or.inr rfl, rfl⟩
set_option maxRecDepth 100000 in
theorem lk78_21 : xAt kT78 21 (.if_icmp .ge 53) 24 := ⟨3, rfl, Or.inr rfl, rfl⟩
set_option maxRecDepth 100000 in
theorem lk78_24 : xAt kT78 24 (.aload_n 0) 25 := ⟨1, rfl, Or.inr rfl, rfl⟩
set_option maxRecDepth 100000 in
theorem lk78_25 : xAt kT78 25 (.getfield 28) 28 := ⟨3, rfl, Or.inr rfl, rfl⟩
set_option maxRecDepth 100000 in
theorem lk78_28 : xAt kT78 28 (.iload_n 1) 29 := ⟨1, rfl, Or.inr rfl, rfl⟩
set_option maxRecDepth 100000 in
theorem lk78_29 : xAt kT78 29 (.sipush 132) 32 := ⟨3, rfl, Or.inr rfl, rfl⟩
set_option maxRecDepth 100000 in
theorem lk78_32 : xAt kT78 32 (.imul) 33 := ⟨1, rfl, Or.inr rfl, rfl⟩
set_option maxRecDepth 100000 in
theorem lk78_33 : xAt kT78 33 (.iload 5) 35 := ⟨2, rfl, Or.inr rfl, rfl⟩
set_option maxRecDepth 100000 in
theorem lk78_35 : xAt kT78 35 (.iadd) 36 := ⟨1, rfl, Or.inr rfl, rfl⟩
set_option maxRecDepth 100000 in
theorem lk78_36 : xAt kT78 36 (.baload) 37 := ⟨1, rfl, Or.inr rfl, rfl⟩
set_option maxRecDepth 100000 in
theorem lk78_37 : xAt kT78 37 (.sipush 255) 40 := ⟨3, rfl, Or.inr rfl, rfl⟩
set_option maxRecDepth 100000 in
theorem lk78_40 : xAt kT78 40 (.iand) 41 := ⟨1, rfl, Or.inr rfl, rfl⟩
set_option maxRecDepth 100000 in
theorem lk78_41 : xAt kT78 41 (.aload_n 0) 42 := ⟨1, rfl, Or.inr rfl, rfl⟩
set_option maxRecDepth 100000 in
theorem lk78_42 : xAt kT78 42 (.getfield 37) 45 := ⟨3, rfl, Or.inr rfl, rfl⟩
set_option maxRecDepth 100000 in
theorem lk78_45 : xAt kT78 45 (.getfield 139) 48 := ⟨3, rfl, Or.inr rfl, rfl⟩
set_option maxRecDepth 100000 in
theorem lk78_48 : xAt kT78 48 (.iload_n 2) 49 := ⟨1, rfl, Or.inr rfl, rfl⟩
set_option maxRecDepth 100000 in
theorem lk78_49 : xAt kT78 49 (.iload 5) 51 := ⟨2, rfl, Or.inr rfl, rfl⟩
set_option maxRecDepth 100000 in
theorem lk78_51 : xAt kT78 51 (.iadd) 52 := ⟨1, rfl, Or.inr rfl, rfl⟩
set_option maxRecDepth 100000 in
theorem lk78_52 : xAt kT78 52 (.baload) 53 := ⟨1, rfl, Or.inr rfl, rfl⟩
set_option maxRecDepth 100000 in
theorem lk78_53 : xAt kT78 53 (.sipush 255) 56 := ⟨3, rfl, Or.inr rfl, rfl⟩
set_option maxRecDepth 100000 in
theorem lk78_56 : xAt kT78 56 (.iand) 57 := ⟨1, rfl, Or.inr rfl, rfl⟩
set_option maxRecDepth 100000 in
theorem lk78_57 : xAt kT78 57 (.isub) 58 := ⟨1, rfl, Or.inr rfl, rfl⟩
set_option maxRecDepth 100000 in
theorem lk78_58 : xAt kT78 58 (.istore 6) 60 := ⟨2, rfl, Or.inr rfl, rfl⟩
set_option maxRecDepth 100000 in
theorem lk78_60 : xAt kT78 60 (.iload 6) 62 := ⟨2, rfl, Or.inr rfl, rfl⟩
set_option maxRecDepth 100000 in
theorem lk78_62 : xAt kT78 62 (.ifCond .eq 6) 65 := ⟨3, rfl, Or.inr rfl, rfl⟩
set_option maxRecDepth 100000 in
theorem lk78_65 : xAt kT78 65 (.iload 6) 67 := ⟨2, rfl, Or.inr rfl, rfl⟩
set_option maxRecDepth 100000 in
theorem lk78_67 : xAt kT78 67 (.ireturn) 68 := ⟨1, rfl, Or.inr rfl, rfl⟩
set_option maxRecDepth 100000 in
theorem lk78_68 : xAt kT78 68 (.iinc 5 1) 71 := ⟨3, rfl, Or.inr rfl, rfl⟩
set_option maxRecDepth 100000 in
theorem lk78_71 : xAt kT78 71 (.goto (-60)) 74 := ⟨3, rfl, Or.inr rfl, rfl⟩
set_option maxRecDepth 100000 in
theorem lk78_74 : xAt kT78 74 (.iload 4) 76 := ⟨2, rfl, Or.inr rfl, rfl⟩
set_option maxRecDepth 100000 in
theorem lk78_76 : xAt kT78 76 (.iload_n 3) 77 := ⟨1, rfl, Or.inr rfl, rfl⟩
set_option maxRecDepth 100000 in
theorem lk78_77 : xAt kT78 77 (.isub) 78 := ⟨1, rfl, Or.inr rfl, rfl⟩
set_option maxRecDepth 100000 in
theorem lk78_78 : xAt kT78 78 (.ireturn) 79 := ⟨1, rfl, Or.inr rfl, rfl⟩
set_option maxRecDepth 100000 in
theorem lk81_0 : xAt kT81 0 (.iconst 0) 1 := ⟨1, rfl, Or.inr rfl, rfl⟩
set_option maxRecDepth 100000 in
theorem lk81_1 : xAt kT81 1 (.istore_n 1) 2 := ⟨1, rfl, Or.inr rfl, rfl⟩
set_option maxRecDepth 100000 in
theorem lk81_2 : xAt kT81 2 (.iconst 1) 3 := ⟨1, rfl, Or.inr rfl, rfl⟩
set_option maxRecDepth 100000 in
theorem lk81_3 : xAt kT81 3 (.istore_n 2) 4 := ⟨1, rfl, Or.inr rfl, rfl⟩
set_option maxRecDepth 100000 in
theorem lk81_4 : xAt kT81 4 (.iload_n 2) 5 := ⟨1, rfl, Or.inr rfl, rfl⟩
set_option maxRecDepth 100000 in
theorem lk81_5 : xAt kT81 5 (.aload_n 0) 6 := ⟨1, rfl, Or.inr rfl, rfl⟩
set_option maxRecDepth 100000 in
theorem lk81_6 : xAt kT81 6 (.getfield 41) 9 := ⟨3, rfl, Or.inr rfl, rfl⟩
set_option maxRecDepth 100000 in
theorem lk81_9 : xAt kT81 9 (.if_icmp .ge 34) 12 := ⟨3, rfl, Or.inr rfl, rfl⟩
set_option maxRecDepth 100000 in
theorem lk81_12 : xAt kT81 12 (.aload_n 0) 13 := ⟨1, rfl, Or.inr rfl, rfl⟩
set_option maxRecDepth 100000 in
theorem lk81_13 : xAt kT81 13 (.getfield 11) 16 := ⟨3, rfl, Or.inr rfl, rfl⟩
set_option maxRecDepth 100000 in
theorem lk81_16 : xAt kT81 16 (.iload_n 2) 17 := ⟨1, rfl, Or.inr rfl, rfl⟩
set_option maxRecDepth 100000 in
theorem lk81_17 : xAt kT81 17 (.iconst 5) 18 := ⟨1, rfl, Or.inr rfl, rfl⟩
set_option maxRecDepth 100000 in
theorem lk81_18 : xAt kT81 18 (.imul) 19 := ⟨1, rfl, Or.inr rfl, rfl⟩
set_option maxRecDepth 100000 in
theorem lk81_19 : xAt kT81 19 (.iconst 1) 20 := ⟨1, rfl, Or.inr rfl, rfl⟩
set_option maxRecDepth 100000 in
theorem lk81_20 : xAt kT81 20 (.iadd) 21 := ⟨1, rfl, Or.inr rfl, rfl⟩
set_option maxRecDepth 100000 in
theorem lk81_21 : xAt kT81 21 (.iaload) 22 := ⟨1, rfl, Or.inr rfl, rfl⟩
set_option maxRecDepth 100000 in
theorem lk81_22 : xAt kT81 22 (.aload_n 0) 23 := ⟨1, rfl, Or.inr rfl, rfl⟩
set_option maxRecDepth 100000 in
theorem lk81_23 : xAt kT81 23 (.getfield 11) 26 := ⟨3, rfl, Or.inr rfl, rfl⟩
set_option maxRecDepth 100000 in
theorem lk81_26 : xAt kT81 26 (.iload_n 1) 27 := ⟨1, rfl, Or.inr rfl, rfl⟩
set_option maxRecDepth 100000 in
theorem lk81_27 : xAt kT81 27 (.iconst 5) 28 := ⟨1, rfl, Or.inr rfl, rfl⟩
set_option maxRecDepth 100000 in
theorem lk81_28 : xAt kT81 28 (.imul) 29 := ⟨1, rfl, Or.inr rfl, rfl⟩
set_option maxRecDepth 100000 in
theorem lk81_29 : xAt kT81 29 (.iconst 1) 30 := ⟨1, rfl, Or.inr rfl, rfl⟩
set_option maxRecDepth 100000 in
theorem lk81_30 : xAt kT81 30 (.iadd) 31 := ⟨1, rfl, Or.inr rfl, rfl⟩
set_option maxRecDepth 100000 in
theorem lk81_31 : xAt kT81 31 (.iaload) 32 := ⟨1, rfl, Or.inr rfl, rfl⟩
set_option maxRecDepth 100000 in
theorem lk81_32 : xAt kT81 32 (.if_icmp .ge 5) 35 := ⟨3, rfl, Or.inr rfl, rfl⟩
set_option maxRecDepth 100000 in
theorem lk81_35 : xAt kT81 35 (.iload_n 2) 36 := ⟨1, rfl, Or.inr rfl, rfl⟩
set_option maxRecDepth 100000 in
theorem lk81_36 : xAt kT81 36 (.istore_n 1) 37 := ⟨1, rfl, Or.inr rfl, rfl⟩
set_option maxRecDepth 100000 in
theorem lk81_37 : xAt kT81 37 (.iinc 2 1) 40 := ⟨3, rfl, Or.inr rfl, rfl⟩
set_option maxRecDepth 100000 in
theorem lk81_40 : xAt kT81 40 (.goto (-36)) 43 := ⟨3, rfl, Or.inr rfl, rfl⟩
set_option maxRecDepth 100000 in
theorem lk81_43 : xAt kT81 43 (.aload_n 0) 44 := ⟨1, rfl, Or.inr rfl, rfl⟩
set_option maxRecDepth 100000 in
theorem lk81_44 : xAt kT81 44 (.dup) 45 := ⟨1, rfl, Or.inr rfl, rfl⟩
set_option maxRecDepth 100000 in
theorem lk81_45 : xAt kT81 45 (.getfield 41) 48 := ⟨3, rfl, Or.inr rfl, rfl⟩
set_option maxRecDepth 100000 in
theorem lk81_48 : xAt kT81 48 (.iconst 1) 49 := ⟨1, rfl, Or.inr rfl, rfl⟩
set_option maxRecDepth 100000 in
theorem lk81_49 : xAt kT81 49 (.isub) 50 := ⟨1, rfl, Or.inr rfl, rfl⟩
set_option maxRecDepth 100000 in
theorem lk81_50 : xAt kT81 50 (.putfield 41) 53 := ⟨3, rfl, Or.inr rfl, rfl⟩
set_option maxRecDepth 100000 in
theorem lk81_53 : xAt kT81 53 (.aload_n 0) 54 := ⟨1, rfl, Or.inr rfl, rfl⟩
set_option maxRecDepth 100000 in
theorem lk81_54 : xAt kT81 54 (.getfield 41) 57 := ⟨3, rfl, Or.inr rfl, rfl⟩
set_option maxRecDepth 100000 in
theorem lk81_57 : xAt kT81 57 (.iload_n 1) 58 := ⟨1, rfl, Or.inr rfl, rfl⟩
set_option maxRecDepth 100000 in
theorem lk81_58 : xAt kT81 58 (.isub) 59 := ⟨1, rfl, Or.inr rfl, rfl⟩
set_option maxRecDepth 100000 in
theorem lk81_59 : xAt kT81 59 (.istore_n 2) 60 := ⟨1, rfl, Or.inr rfl, rfl⟩
set_option maxRecDepth 100000 in
theorem lk81_60 : xAt kT81 60 (.iload_n 1) 61 := ⟨1, rfl, Or.inr rfl, rfl⟩
set_option maxRecDepth 100000 in
theorem lk81_61 : xAt kT81 61 (.iconst 1) 62 := ⟨1, rfl, Or.inr rfl, rfl⟩
set_option maxRecDepth 100000 in
theorem lk81_62 : xAt kT81 62 (.iadd) 63 := ⟨1, rfl, Or.inr rfl, rfl⟩
set_option maxRecDepth 100000 in
theorem lk81_63 : xAt kT81 63 (.istore_n 3) 64 := ⟨1, rfl, Or.inr rfl, rfl⟩
set_option maxRecDepth 100000 in
theorem lk81_64 : xAt kT81 64 (.aload_n 0) 65 := ⟨1, rfl, Or.inr rfl, rfl⟩
set_option maxRecDepth 100000 in
theorem lk81_65 : xAt kT81 65 (.getfield 11) 68 := ⟨3, rfl, Or.inr rfl, rfl⟩
set_option maxRecDepth 100000 in
theorem lk81_68 : xAt kT81 68 (.iload_n 3) 69 := ⟨1, rfl, Or.inr rfl, rfl⟩
set_option maxRecDepth 100000 in
theorem lk81_69 : xAt kT81 69 (.iconst 5) 70 := ⟨1, rfl, Or.inr rfl, rfl⟩
set_option maxRecDepth 100000 in
theorem lk81_70 : xAt kT81 70 (.imul) 71 := ⟨1, rfl, Or.inr rfl, rfl⟩
set_option maxRecDepth 100000 in
theorem lk81_71 : xAt kT81 71 (.aload_n 0) 72 := ⟨1, rfl, Or.inr rfl, rfl⟩
set_option maxRecDepth 100000 in
theorem lk81_72 : xAt kT81 72 (.getfield 11) 75 := ⟨3, rfl, Or.inr rfl, rfl⟩
set_option maxRecDepth 100000 in
theorem lk81_75 : xAt kT81 75 (.iload_n 1) 76 := ⟨1, rfl, Or.inr rfl, rfl⟩
set_option maxRecDepth 100000 in
theorem lk81_76 : xAt kT81 76 (.iconst 5) 77 := ⟨1, rfl, Or.inr rfl, rfl⟩
set_option maxRecDepth 100000 in
theorem lk81_77 : xAt kT81 77 (.imul) 78 := ⟨1, rfl, Or.inr rfl, rfl⟩
set_option maxRecDepth 100000 in
theorem lk81_78 : xAt kT81 78 (.iload_n 2) 79 := ⟨1, rfl, Or.inr rfl, rfl⟩
set_option maxRecDepth 100000 in
theorem lk81_79 : xAt kT81 79 (.iconst 5) 80 := ⟨1, rfl, Or.inr rfl, rfl⟩
set_option maxRecDepth 100000 in
theorem lk81_80 : xAt kT81 80 (.imul) 81 := ⟨1, rfl, Or.inr rfl, rfl⟩
set_option maxRecDepth 100000 in
theorem lk81_81 : xAt kT81 81 (.invokestatic 68) 84 := ⟨3, rfl, Or.inr rfl, rfl⟩
set_option maxRecDepth 100000 in
theorem lk81_84 : xAt kT81 84 (.aload_n 0) 85 := ⟨1, rfl, Or.inr rfl, rfl⟩
set_option maxRecDepth 100000 in
theorem lk81_85 : xAt kT81 85 (.getfield 15) 88 := ⟨3, rfl, Or.inr rfl, rfl⟩
set_option maxRecDepth 100000 in
theorem lk81_88 : xAt kT81 88 (.iload_n 3) 89 := ⟨1, rfl, Or.inr rfl, rfl⟩
set_option maxRecDepth 100000 in
theorem lk81_89 : xAt kT81 89 (.bipush 101) 91 := ⟨2, rfl, Or.inr rfl, rfl⟩
set_option maxRecDepth 100000 in
theorem lk81_91 : xAt kT81 91 (.imul) 92 := ⟨1, rfl, Or.inr rfl, rfl⟩
set_option maxRecDepth 100000 in
theorem lk81_92 : xAt kT81 92 (.aload_n 0) 93 := ⟨1, rfl, Or.inr rfl, rfl⟩
set_option maxRecDepth 100000 in
theorem lk81_93 : xAt kT81 93 (.getfield 15) 96 := ⟨3, rfl, Or.inr rfl, rfl⟩
set_option maxRecDepth 100000 in
theorem lk81_96 : xAt kT81 96 (.iload_n 1) 97 := ⟨1, rfl, Or.inr rfl, rfl⟩
set_option maxRecDepth 100000 in
theorem lk81_97 : xAt kT81 97 (.bipush 101) 99 := ⟨2, rfl, Or.inr rfl, rfl⟩
set_option maxRecDepth 100000 in
theorem lk81_99 : xAt kT81 99 (.imul) 100 := ⟨1, rfl, Or.inr rfl, rfl⟩
set_option maxRecDepth 100000 in
theorem lk81_100 : xAt kT81 100 (.iload_n 2) 101 := ⟨1, rfl, Or.inr rfl, rfl⟩
set_option maxRecDepth 100000 in
theorem lk81_101 : xAt kT81 101 (.bipush 101) 103 := ⟨2, rfl, Or.inr rfl, rfl⟩
set_option maxRecDepth 100000 in
theorem lk81_103 : xAt kT81 103 (.imul) 104 := ⟨1, rfl, Or.inr rfl, rfl⟩
set_option maxRecDepth 100000 in
theorem lk81_104 : xAt kT81 104 (.invokestatic 68) 107 := ⟨3, rfl, Or.inr rfl, rfl⟩
set_option maxRecDepth 100000 in
theorem lk81_107 : xAt kT81 107 (.return_) 108 := ⟨1, rfl, Or.inr rfl, rfl⟩
set_option maxRecDepth 100000 in
theorem lk82_0 : xAt kT82 0 (.iconst 0) 1 := ⟨1, rfl, Or.inr rfl, rfl⟩
set_option maxRecDepth 100000 in
theorem lk82_1 : xAt kT82 1 (.istore_n 2) 2 := ⟨1, rfl, Or.inr rfl, rfl⟩
set_option maxRecDepth 100000 in
theorem lk82_2 : xAt kT82 2 (.iload_n 2) 3 := ⟨1, rfl, Or.inr rfl, rfl⟩
set_option maxRecDepth 100000 in
theorem lk82_3 : xAt kT82 3 (.aload_n 0) 4 := ⟨1, rfl, Or.inr rfl, rfl⟩
set_option maxRecDepth 100000 in
theorem lk82_4 : xAt kT82 4 (.getfield 41) 7 := ⟨3, rfl, Or.inr rfl, rfl⟩
set_option maxRecDepth 100000 in
theorem lk82_7 : xAt kT82 7 (.if_icmp .ge 23) 10 := ⟨3, rfl, Or.inr rfl, rfl⟩
set_option maxRecDepth 100000 in
theorem lk82_10 : xAt kT82 10 (.aload_n 0) 11 := ⟨1, rfl, Or.inr rfl, rfl⟩
set_option maxRecDepth 100000 in
theorem lk82_11 : xAt kT82 11 (.getfield 11) 14 := ⟨3, rfl, Or.inr rfl, rfl⟩
set_option maxRecDepth 100000 in
theorem lk82_14 : xAt kT82 14 (.iload_n 2) 15 := ⟨1, rfl, Or.inr rfl, rfl⟩
set_option maxRecDepth 100000 in
theorem lk82_15 : xAt kT82 15 (.iconst 5) 16 := ⟨1, rfl, Or.inr rfl, rfl⟩
set_option maxRecDepth 100000 in
theorem lk82_16 : xAt kT82 16 (.imul) 17 := ⟨1, rfl, Or.inr rfl, rfl⟩
set_option maxRecDepth 100000 in
theorem lk82_17 : xAt kT82 17 (.iaload) 18 := ⟨1, rfl, Or.inr rfl, rfl⟩
set_option maxRecDepth 100000 in
theorem lk82_18 : xAt kT82 18 (.iload_n 1) 19 := ⟨1, rfl, Or.inr rfl, rfl⟩
set_option maxRecDepth 100000 in
theorem lk82_19 : xAt kT82 19 (.if_icmp .ne 5) 22 := ⟨3, rfl, Or.inr rfl, rfl⟩
set_option maxRecDepth 100000 in
theorem lk82_22 : xAt kT82 22 (.iload_n 2) 23 := ⟨1, rfl, Or.inr rfl, rfl⟩
set_option maxRecDepth 100000 in
theorem lk82_23 : xAt kT82 23 (.ireturn) 24 := ⟨1, rfl, Or.inr rfl, rfl⟩
set_option maxRecDepth 100000 in
theorem lk82_24 : xAt kT82 24 (.iinc 2 1) 27 := ⟨3, rfl, Or.inr rfl, rfl⟩
set_option maxRecDepth 100000 in
theorem lk82_27 : xAt kT82 27 (.goto (-25)) 30 := ⟨3, rfl, Or.inr rfl, rfl⟩
set_option maxRecDepth 100000 in
theorem lk82_30 : xAt kT82 30 (.iconst (-1)) 31 := ⟨1, rfl, Or.inr rfl, rfl⟩
set_option maxRecDepth 100000 in
theorem lk82_31 : xAt kT82 31 (.ireturn) 32 := ⟨1, rfl, Or.inr rfl, rfl⟩
set_option maxRecDepth 100000 in
theorem lk83_0 : xAt kT83 0 (.aload_n 0) 1 := ⟨1, rfl, Or.inr rfl, rfl⟩
set_option maxRecDepth 100000 in
theorem lk83_1 : xAt kT83 1 (.getfield 19) 4 := ⟨3, rfl, Or.inr rfl, rfl⟩
set_option maxRecDepth 100000 in
theorem lk83_4 : xAt kT83 4 (.iload_n 1) 5 := ⟨1, rfl, Or.inr rfl, rfl⟩
set_option maxRecDepth 100000 in
theorem lk83_5 : xAt kT83 5 (.iaload) 6 := ⟨1, rfl, Or.inr rfl, rfl⟩
set_option maxRecDepth 100000 in
theorem lk83_6 : xAt kT83 6 (.istore 4) 8 := ⟨2, rfl, Or.inr rfl, rfl⟩
set_option maxRecDepth 100000 in
theorem lk83_8 : xAt kT83 8 (.aload_n 0) 9 := ⟨1, rfl, Or.inr rfl, rfl⟩
set_option maxRecDepth 100000 in
theorem lk83_9 : xAt kT83 9 (.getfield 25) 12 := ⟨3, rfl, Or.inr rfl, rfl⟩
set_option maxRecDepth 100000 in
theorem lk83_12 : xAt kT83 12 (.iload 4) 14 := ⟨2, rfl, Or.inr rfl, rfl⟩
set_option maxRecDepth 100000 in
theorem lk83_14 : xAt kT83 14 (.iaload) 15 := ⟨1, rfl, Or.inr rfl, rfl⟩
set_option maxRecDepth 100000 in
theorem lk83_15 : xAt kT83 15 (.iload_n 3) 16 := ⟨1, rfl, Or.inr rfl, rfl⟩
set_option maxRecDepth 100000 in
theorem lk83_16 : xAt kT83 16 (.if_icmp .eq 5) 19 := ⟨3, rfl, Or.inr rfl, rfl⟩
set_option maxRecDepth 100000 in
theorem lk83_19 : xAt kT83 19 (.iconst 0) 20 := ⟨1, rfl, Or.inr rfl, rfl⟩
set_option maxRecDepth 100000 in
theorem lk83_20 : xAt kT83 20 (.ireturn) 21 := ⟨1, rfl, Or.inr rfl, rfl⟩
set_option maxRecDepth 100000 in
theorem lk83_21 : xAt kT83 21 (.iconst 0) 22 := ⟨1, rfl, Or.inr rfl, rfl⟩
set_option maxRecDepth 100000 in
theorem lk83_22 : xAt kT83 22 (.istore 5) 24 := ⟨2, rfl, Or.inr rfl, rfl⟩
set_option maxRecDepth 100000 in
theorem lk83_24 : xAt kT83 24 (.iload 5) 26 := ⟨2, rfl, Or.inr rfl, rfl⟩
set_option maxRecDepth 100000 in
theorem lk83_26 : xAt kT83 26 (.iload_n 3) 27 := ⟨1, rfl, Or.inr rfl, rfl⟩
set_option maxRecDepth 100000 in
theorem lk83_27 : xAt kT83 27 (.if_icmp .ge 43) 30 := ⟨3, rfl, Or.inr rfl, rfl⟩
set_option maxRecDepth 100000 in
theorem lk83_30 : xAt kT83 30 (.aload_n 0) 31 := ⟨1, rfl, Or.inr rfl, rfl⟩
set_option maxRecDepth 100000 in
theorem lk83_31 : xAt kT83 31 (.getfield 28) 34 := ⟨3, rfl, Or.inr rfl, rfl⟩
set_option maxRecDepth 100000 in
theorem lk83_34 : xAt kT83 34 (.iload 4) 36 := ⟨2, rfl, Or.inr rfl, rfl⟩
set_option maxRecDepth 100000 in
theorem lk83_36 : xAt kT83 36 (.sipush 132) 39 := ⟨3, rfl, Or.inr rfl, rfl⟩
set_option maxRecDepth 100000 in
theorem lk83_39 : xAt kT83 39 (.imul) 40 := ⟨1, rfl, Or.inr rfl, rfl⟩
set_option maxRecDepth 100000 in
theorem lk83_40 : xAt kT83 40 (.bipush 32) 42 := ⟨2, rfl, Or.inr rfl, rfl⟩
set_option maxRecDepth 100000 in
theorem lk83_42 : xAt kT83 42 (.iadd) 43 := ⟨1, rfl, Or.inr rfl, rfl⟩
set_option maxRecDepth 100000 in
theorem lk83_43 : xAt kT83 43 (.iload 5) 45 := ⟨2, rfl, Or.inr rfl, rfl⟩
set_option maxRecDepth 100000 in
theorem lk83_45 : xAt kT83 45 (.iadd) 46 := ⟨1, rfl, Or.inr rfl, rfl⟩
set_option maxRecDepth 100000 in
theorem lk83_46 : xAt kT83 46 (.baload) 47 := ⟨1, rfl, Or.inr rfl, rfl⟩
set_option maxRecDepth 100000 in
theorem lk83_47 : xAt kT83 47 (.aload_n 0) 48 := ⟨1, rfl, Or.inr rfl, rfl⟩
set_option maxRecDepth 100000 in
theorem lk83_48 : xAt kT83 48 (.getfield 37) 51 := ⟨3, rfl, Or.inr rfl, rfl⟩
set_option maxRecDepth 100000 in
theorem lk83_51 : xAt kT83 51 (.getfield 139) 54 := ⟨3, rfl, Or.inr rfl, rfl⟩
set_option maxRecDepth 100000 in
theorem lk83_54 : xAt kT83 54 (.iload_n 2) 55 := ⟨1, rfl, Or.inr rfl, rfl⟩
set_option maxRecDepth 100000 in
theorem lk83_55 : xAt kT83 55 (.iload 5) 57 := ⟨2, rfl, Or.inr rfl, rfl⟩
set_option maxRecDepth 100000 in
theorem lk83_57 : xAt kT83 57 (.iadd) 58 := ⟨1, rfl, Or.inr rfl, rfl⟩
set_option maxRecDepth 100000 in
theorem lk83_58 : xAt kT83 58 (.baload) 59 := ⟨1, rfl, Or.inr rfl, rfl⟩
set_option maxRecDepth 100000 in
theorem lk83_59 : xAt kT83 59 (.if_icmp .eq 5) 62 := ⟨3, rfl, Or.inr rfl, rfl⟩
set_option maxRecDepth 100000 in
theorem lk83_62 : xAt kT83 62 (.iconst 0) 63 := ⟨1, rfl, Or.inr rfl, rfl⟩
set_option maxRecDepth 100000 in
theorem lk83_63 : xAt kT83 63 (.ireturn) 64 := ⟨1, rfl, Or.inr rfl, rfl⟩
set_option maxRecDepth 100000 in
theorem lk83_64 : xAt kT83 64 (.iinc 5 1) 67 := ⟨3, rfl, Or.inr rfl, rfl⟩
set_option maxRecDepth 100000 in
theorem lk83_67 : xAt kT83 67 (.goto (-43)) 70 := ⟨3, rfl, Or.inr rfl, rfl⟩
set_option maxRecDepth 100000 in
theorem lk83_70 : xAt kT83 70 (.iconst 1) 71 := ⟨1, rfl, Or.inr rfl, rfl⟩
set_option maxRecDepth 100000 in
theorem lk83_71 : xAt kT83 71 (.ireturn) 72 := ⟨1, rfl, Or.inr rfl, rfl⟩
set_option maxRecDepth 100000 in
theorem lk104_0 : xAt kT104 0 (.aload_n 0) 1 := ⟨1, rfl, Or.inr rfl, rfl⟩
set_option maxRecDepth 100000 in
theorem lk104_1 : xAt kT104 1 (.getfield 19) 4 := ⟨3, rfl, Or.inr rfl, rfl⟩
set_option maxRecDepth 100000 in
theorem lk104_4 : xAt kT104 4 (.iload_n 1) 5 := ⟨1, rfl, Or.inr rfl, rfl⟩
set_option maxRecDepth 100000 in
theorem lk104_5 : xAt kT104 5 (.iaload) 6 := ⟨1, rfl, Or.inr rfl, rfl⟩
set_option maxRecDepth 100000 in
theorem lk104_6 : xAt kT104 6 (.istore_n 2) 7 := ⟨1, rfl, Or.inr rfl, rfl⟩
set_option maxRecDepth 100000 in
theorem lk104_7 : xAt kT104 7 (.aload_n 0) 8 := ⟨1, rfl, Or.inr rfl, rfl⟩
set_option maxRecDepth 100000 in
theorem lk104_8 : xAt kT104 8 (.getfield 22) 11 := ⟨3, rfl, Or.inr rfl, rfl⟩
set_option maxRecDepth 100000 in
theorem lk104_11 : xAt kT104 11 (.iload_n 2) 12 := ⟨1, rfl, Or.inr rfl, rfl⟩
set_option maxRecDepth 100000 in
theorem lk104_12 : xAt kT104 12 (.iaload) 13 := ⟨1, rfl, Or.inr rfl, rfl⟩
set_option maxRecDepth 100000 in
theorem lk104_13 : xAt kT104 13 (.aload_n 0) 14 := ⟨1, rfl, Or.inr rfl, rfl⟩
set_option maxRecDepth 100000 in
theorem lk104_14 : xAt kT104 14 (.getfield 25) 17 := ⟨3, rfl, Or.inr rfl, rfl⟩
set_option maxRecDepth 100000 in
theorem lk104_17 : xAt kT104 17 (.iload_n 2) 18 := ⟨1, rfl, Or.inr rfl, rfl⟩
set_option maxRecDepth 100000 in
theorem lk104_18 : xAt kT104 18 (.iaload) 19 := ⟨1, rfl, Or.inr rfl, rfl⟩
set_option maxRecDepth 100000 in
theorem lk104_19 : xAt kT104 19 (.iadd) 20 := ⟨1, rfl, Or.inr rfl, rfl⟩
set_option maxRecDepth 100000 in
theorem lk104_20 : xAt kT104 20 (.bipush 15) 22 := ⟨2, rfl, Or.inr rfl, rfl⟩
set_option maxRecDepth 100000 in
theorem lk104_22 : xAt kT104 22 (.iadd) 23 := ⟨1, rfl, Or.inr rfl, rfl⟩
set_option maxRecDepth 100000 in
theorem lk104_23 : xAt kT104 23 (.bipush 16) 25 := ⟨2, rfl, Or.inr rfl, rfl⟩
set_option maxRecDepth 100000 in
theorem lk104_25 : xAt kT104 25 (.idiv) 26 := ⟨1, rfl, Or.inr rfl, rfl⟩
set_option maxRecDepth 100000 in
theorem lk104_26 : xAt kT104 26 (.ireturn) 27 := ⟨1, rfl, Or.inr rfl, rfl⟩
set_option maxRecDepth 100000 in
theorem lk85_0 : xAt kT85 0 (.aload_n 0) 1 := ⟨1, rfl, Or.inr rfl, rfl⟩
set_option maxRecDepth 100000 in
theorem lk85_1 : xAt kT85 1 (.getfield 19) 4 := ⟨3, rfl, Or.inr rfl, rfl⟩
set_option maxRecDepth 100000 in
theorem lk85_4 : xAt kT85 4 (.aload_n 0) 5 := ⟨1, rfl, Or.inr rfl, rfl⟩
set_option maxRecDepth 100000 in
theorem lk85_5 : xAt kT85 5 (.getfield 45) 8 := ⟨3, rfl, Or.inr rfl, rfl⟩
set_option maxRecDepth 100000 in
theorem lk85_8 : xAt kT85 8 (.iaload) 9 := ⟨1, rfl, Or.inr rfl, rfl⟩
set_option maxRecDepth 100000 in
theorem lk85_9 : xAt kT85 9 (.istore 4) 11 := ⟨2, rfl, Or.inr rfl, rfl⟩
set_option maxRecDepth 100000 in
theorem lk85_11 : xAt kT85 11 (.aload_n 0) 12 := ⟨1, rfl, Or.inr rfl, rfl⟩
set_option maxRecDepth 100000 in
theorem lk85_12 : xAt kT85 12 (.getfield 19) 15 := ⟨3, rfl, Or.inr rfl, rfl⟩
set_option maxRecDepth 100000 in
theorem lk85_15 : xAt kT85 15 (.iload_n 1) 16 := ⟨1, rfl, Or.inr rfl, rfl⟩
set_option maxRecDepth 100000 in
theorem lk85_16 : xAt kT85 16 (.aload_n 0) 17 := ⟨1, rfl, Or.inr rfl, rfl⟩
set_option maxRecDepth 100000 in
theorem lk85_17 : xAt kT85 17 (.getfield 19) 20 := ⟨3, rfl, Or.inr rfl, rfl⟩
set_option maxRecDepth 100000 in
theorem lk85_20 : xAt kT85 20 (.iload_n 1) 21 := ⟨1, rfl, Or.inr rfl, rfl⟩
set_option maxRecDepth 100000 in
theorem lk85_21 : xAt kT85 21 (.iconst 1) 22 := ⟨1, rfl, Or.inr rfl, rfl⟩
set_option maxRecDepth 100000 in
theorem lk85_22 : xAt kT85 22 (.iadd) 23 := ⟨1, rfl, Or.inr rfl, rfl⟩
set_option maxRecDepth 100000 in
theorem lk85_23 : xAt kT85 23 (.aload_n 0) 24 := ⟨1, rfl, Or.inr rfl, rfl⟩
set_option maxRecDepth 100000 in
theorem lk85_24 : xAt kT85 24 (.getfield 45) 27 := ⟨3, rfl, Or.inr rfl, rfl⟩
set_option maxRecDepth 100000 in
theorem lk85_27 : xAt kT85 27 (.iload_n 1) 28 := ⟨1, rfl, Or.inr rfl, rfl⟩
set_option maxRecDepth 100000 in
theorem lk85_28 : xAt kT85 28 (.isub) 29 := ⟨1, rfl, Or.inr rfl, rfl⟩
set_option maxRecDepth 100000 in
theorem lk85_29 : xAt kT85 29 (.invokestatic 68) 32 := ⟨3, rfl, Or.inr rfl, rfl⟩
set_option maxRecDepth 100000 in
theorem lk85_32 : xAt kT85 32 (.aload_n 0) 33 := ⟨1, rfl, Or.inr rfl, rfl⟩
set_option maxRecDepth 100000 in
theorem lk85_33 : xAt kT85 33 (.getfield 19) 36 := ⟨3, rfl, Or.inr rfl, rfl⟩
set_option maxRecDepth 100000 in
theorem lk85_36 : xAt kT85 36 (.iload_n 1) 37 := ⟨1, rfl, Or.inr rfl, rfl⟩
set_option maxRecDepth 100000 in
theorem lk85_37 : xAt kT85 37 (.iload 4) 39 := ⟨2, rfl, Or.inr rfl, rfl⟩
set_option maxRecDepth 100000 in
theorem lk85_39 : xAt kT85 39 (.iastore) 40 := ⟨1, rfl, Or.inr rfl, rfl⟩
set_option maxRecDepth 100000 in
theorem lk85_40 : xAt kT85 40 (.aload_n 0) 41 := ⟨1, rfl, Or.inr rfl, rfl⟩
set_option maxRecDepth 100000 in
theorem lk85_41 : xAt kT85 41 (.dup) 42 := ⟨1, rfl, Or.inr rfl, rfl⟩
set_option maxRecDepth 100000 in
theorem lk85_42 : xAt kT85 42 (.getfield 45) 45 := ⟨3, rfl, Or.inr rfl, rfl⟩
set_option maxRecDepth 100000 in
theorem lk85_45 : xAt kT85 45 (.iconst 1) 46 := ⟨1, rfl, Or.inr rfl, rfl⟩
set_option maxRecDepth 100000 in
theorem lk85_46 : xAt kT85 46 (.iadd) 47 := ⟨1, rfl, Or.inr rfl, rfl⟩
set_option maxRecDepth 100000 in
theorem lk85_47 : xAt kT85 47 (.putfield 45) 50 := ⟨3, rfl, Or.inr rfl, rfl⟩
set_option maxRecDepth 100000 in
theorem lk85_50 : xAt kT85 50 (.aload_n 0) 51 := ⟨1, rfl, Or.inr rfl, rfl⟩
set_option maxRecDepth 100000 in
theorem lk85_51 : xAt kT85 51 (.getfield 22) 54 := ⟨3, rfl, Or.inr rfl, rfl⟩
set_option maxRecDepth 100000 in
theorem lk85_54 : xAt kT85 54 (.iload 4) 56 := ⟨2, rfl, Or.inr rfl, rfl⟩
set_option maxRecDepth 100000 in
theorem lk85_56 : xAt kT85 56 (.iload_n 3) 57 := ⟨1, rfl, Or.inr rfl, rfl⟩
set_option maxRecDepth 100000 in
theorem lk85_57 : xAt kT85 57 (.iastore) 58 := ⟨1, rfl, Or.inr rfl, rfl⟩
set_option maxRecDepth 100000 in
theorem lk85_58 : xAt kT85 58 (.aload_n 0) 59 := ⟨1, rfl, Or.inr rfl, rfl⟩
set_option maxRecDepth 100000 in
theorem lk85_59 : xAt kT85 59 (.getfield 25) 62 := ⟨3, rfl, Or.inr rfl, rfl⟩
set_option maxRecDepth 100000 in
theorem lk85_62 : xAt kT85 62 (.iload 4) 64 := ⟨2, rfl, Or.inr rfl, rfl⟩
set_option maxRecDepth 100000 in
theorem lk85_64 : xAt kT85 64 (.iconst 0) 65 := ⟨1, rfl, Or.inr rfl, rfl⟩
set_option maxRecDepth 100000 in
theorem lk85_65 : xAt kT85 65 (.iastore) 66 := ⟨1, rfl, Or.inr rfl, rfl⟩
set_option maxRecDepth 100000 in
theorem lk85_66 : xAt kT85 66 (.aload_n 0) 67 := ⟨1, rfl, Or.inr rfl, rfl⟩
set_option maxRecDepth 100000 in
theorem lk85_67 : xAt kT85 67 (.getfield 37) 70 := ⟨3, rfl, Or.inr rfl, rfl⟩
set_option maxRecDepth 100000 in
theorem lk85_70 : xAt kT85 70 (.getfield 139) 73 := ⟨3, rfl, Or.inr rfl, rfl⟩
set_option maxRecDepth 100000 in
theorem lk85_73 : xAt kT85 73 (.iload_n 2) 74 := ⟨1, rfl, Or.inr rfl, rfl⟩
set_option maxRecDepth 100000 in
theorem lk85_74 : xAt kT85 74 (.aload_n 0) 75 := ⟨1, rfl, Or.inr rfl, rfl⟩
set_option maxRecDepth 100000 in
theorem lk85_75 : xAt kT85 75 (.getfield 28) 78 := ⟨3, rfl, Or.inr rfl, rfl⟩
set_option maxRecDepth 100000 in
theorem lk85_78 : xAt kT85 78 (.iload 4) 80 := ⟨2, rfl, Or.inr rfl, rfl⟩
set_option maxRecDepth 100000 in
theorem lk85_80 : xAt kT85 80 (.sipush 132) 83 := ⟨3, rfl, Or.inr rfl, rfl⟩
set_option maxRecDepth 100000 in
theorem lk85_83 : xAt kT85 83 (.imul) 84 := ⟨1, rfl, Or.inr rfl, rfl⟩
set_option maxRecDepth 100000 in
theorem lk85_84 : xAt kT85 84 (.iload_n 3) 85 := ⟨1, rfl, Or.inr rfl, rfl⟩
set_option maxRecDepth 100000 in
theorem lk85_85 : xAt kT85 85 (.invokestatic 68) 88 := ⟨3, rfl, Or.inr rfl, rfl⟩
set_option maxRecDepth 100000 in
theorem lk85_88 : xAt kT85 88 (.aload_n 0) 89 := ⟨1, rfl, Or.inr rfl, rfl⟩
set_option maxRecDepth 100000 in
theorem lk85_89 : xAt kT85 89 (.dup) 90 := ⟨1, rfl, Or.inr rfl, rfl⟩
set_option maxRecDepth 100000 in
theorem lk85_90 : xAt kT85 90 (.getfield 48) 93 := ⟨3, rfl, Or.inr rfl, rfl⟩
set_option maxRecDepth 100000 in
theorem lk85_93 : xAt kT85 93 (.aload_n 0) 94 := ⟨1, rfl, Or.inr rfl, rfl⟩
set_option maxRecDepth 100000 in
theorem lk85_94 : xAt kT85 94 (.iload_n 1) 95 := ⟨1, rfl, Or.inr rfl, rfl⟩
set_option maxRecDepth 100000 in
theorem lk85_95 : xAt kT85 95 (.invokevirtual 124) 98 := ⟨3, rfl, Or.inr rfl, rfl⟩
set_option maxRecDepth 100000 in
theorem lk85_98 : xAt kT85 98 (.iadd) 99 := ⟨1, rfl, Or.inr rfl, rfl⟩
set_option maxRecDepth 100000 in
theorem lk85_99 : xAt kT85 99 (.putfield 48) 102 := ⟨3, rfl, Or.inr rfl, rfl⟩
set_option maxRecDepth 100000 in
theorem lk85_102 : xAt kT85 102 (.return_) 103 := ⟨1, rfl, Or.inr rfl, rfl⟩
set_option maxRecDepth 100000 in
theorem lk86_0 : xAt kT86 0 (.iload_n 1) 1 := ⟨1, rfl, Or.inr rfl, rfl⟩
set_option maxRecDepth 100000 in
theorem lk86_1 : xAt kT86 1 (.aload_n 0) 2 := ⟨1, rfl, Or.inr rfl, rfl⟩
set_option maxRecDepth 100000 in
theorem lk86_2 : xAt kT86 2 (.getfield 45) 5 := ⟨3, rfl, Or.inr rfl, rfl⟩
set_option maxRecDepth 100000 in
theorem lk86_5 : xAt kT86 5 (.if_icmp .ge 22) 8 := ⟨3, rfl, Or.inr rfl, rfl⟩
set_option maxRecDepth 100000 in
theorem lk86_8 : xAt kT86 8 (.aload_n 0) 9 := ⟨1, rfl, Or.inr rfl, rfl⟩
set_option maxRecDepth 100000 in
theorem lk86_9 : xAt kT86 9 (.aload_n 0) 10 := ⟨1, rfl, Or.inr rfl, rfl⟩
set_option maxRecDepth 100000 in
theorem lk86_10 : xAt kT86 10 (.getfield 19) 13 := ⟨3, rfl, Or.inr rfl, rfl⟩
set_option maxRecDepth 100000 in
theorem lk86_13 : xAt kT86 13 (.iload_n 1) 14 := ⟨1, rfl, Or.inr rfl, rfl⟩
set_option maxRecDepth 100000 in
theorem lk86_14 : xAt kT86 14 (.iaload) 15 := ⟨1, rfl, Or.inr rfl, rfl⟩
set_option maxRecDepth 100000 in
theorem lk86_15 : xAt kT86 15 (.iload_n 2) 16 := ⟨1, rfl, Or.inr rfl, rfl⟩
set_option maxRecDepth 100000 in
theorem lk86_16 : xAt kT86 16 (.iload_n 3) 17 := ⟨1, rfl, Or.inr rfl, rfl⟩
set_option maxRecDepth 100000 in
theorem lk86_17 : xAt kT86 17 (.invokevirtual 135) 20 := ⟨3, rfl, Or.inr rfl, rfl⟩
set_option maxRecDepth 100000 in
theorem lk86_20 : xAt kT86 20 (.ifCond .ne 7) 23 := ⟨3, rfl, Or.inr rfl, rfl⟩
set_option maxRecDepth 100000 in
theorem lk86_23 : xAt kT86 23 (.iconst 1) 24 := ⟨1, rfl, Or.inr rfl, rfl⟩
set_option maxRecDepth 100000 in
theorem lk86_24 : xAt kT86 24 (.goto 4) 27 := ⟨3, rfl, Or.inr rfl, rfl⟩
set_option maxRecDepth 100000 in
theorem lk86_27 : xAt kT86 27 (.iconst 0) 28 := ⟨1, rfl, Or.inr rfl, rfl⟩
set_option maxRecDepth 100000 in
theorem lk86_28 : xAt kT86 28 (.ireturn) 29 := ⟨1, rfl, Or.inr rfl, rfl⟩
set_option maxRecDepth 100000 in
theorem lk90_0 : xAt kT90 0 (.iconst 0) 1 := ⟨1, rfl, Or.inr rfl, rfl⟩
set_option maxRecDepth 100000 in
theorem lk90_1 : xAt kT90 1 (.istore_n 3) 2 := ⟨1, rfl, Or.inr rfl, rfl⟩
set_option maxRecDepth 100000 in
theorem lk90_2 : xAt kT90 2 (.aload_n 0) 3 := ⟨1, rfl, Or.inr rfl, rfl⟩
set_option maxRecDepth 100000 in
theorem lk90_3 : xAt kT90 3 (.getfield 45) 6 := ⟨3, rfl, Or.inr rfl, rfl⟩
set_option maxRecDepth 100000 in
theorem lk90_6 : xAt kT90 6 (.istore 4) 8 := ⟨2, rfl, Or.inr rfl, rfl⟩
set_option maxRecDepth 100000 in
theorem lk90_8 : xAt kT90 8 (.iload_n 3) 9 := ⟨1, rfl, Or.inr rfl, rfl⟩
set_option maxRecDepth 100000 in
theorem lk90_9 : xAt kT90 9 (.iload 4) 11 := ⟨2, rfl, Or.inr rfl, rfl⟩
set_option maxRecDepth 100000 in
theorem lk90_11 : xAt kT90 11 (.if_icmp .ge 42) 14 := ⟨3, rfl, Or.inr rfl, rfl⟩
set_option maxRecDepth 100000 in
theorem lk90_14 : xAt kT90 14 (.iload_n 3) 15 := ⟨1, rfl, Or.inr rfl, rfl⟩
set_option maxRecDepth 100000 in
theorem lk90_15 : xAt kT90 15 (.iload 4) 17 := ⟨2, rfl, Or.inr rfl, rfl⟩
set_option maxRecDepth 100000 in
theorem lk90_17 : xAt kT90 17 (.iadd) 18 := ⟨1, rfl, Or.inr rfl, rfl⟩
set_option maxRecDepth 100000 in
theorem lk90_18 : xAt kT90 18 (.iconst 2) 19 := ⟨1, rfl, Or.inr rfl, rfl⟩
set_option maxRecDepth 100000 in
theorem lk90_19 : xAt kT90 19 (.idiv) 20 := ⟨1, rfl, Or.inr rfl, rfl⟩
set_option maxRecDepth 100000 in
theorem lk90_20 : xAt kT90 20 (.istore 5) 22 := ⟨2, rfl, Or.inr rfl, rfl⟩
set_option maxRecDepth 100000 in
theorem lk90_22 : xAt kT90 22 (.aload_n 0) 23 := ⟨1, rfl, Or.inr rfl, rfl⟩
set_option maxRecDepth 100000 in
theorem lk90_23 : xAt kT90 23 (.aload_n 0) 24 := ⟨1, rfl, Or.inr rfl, rfl⟩
set_option maxRecDepth 100000 in
theorem lk90_24 : xAt kT90 24 (.getfield 19) 27 := ⟨3, rfl, Or.inr rfl, rfl⟩
set_option maxRecDepth 100000 in
theorem lk90_27 : xAt kT90 27 (.iload 5) 29 := ⟨2, rfl, Or.inr rfl, rfl⟩
set_option maxRecDepth 100000 in
theorem lk90_29 : xAt kT90 29 (.iaload) 30 := ⟨1, rfl, Or.inr rfl, rfl⟩
set_option maxRecDepth 100000 in
theorem lk90_30 : xAt kT90 30 (.iload_n 1) 31 := ⟨1, rfl, Or.inr rfl, rfl⟩
set_option maxRecDepth 100000 in
theorem lk90_31 : xAt kT90 31 (.iload_n 2) 32 := ⟨1, rfl, Or.inr rfl, rfl⟩
set_option maxRecDepth 100000 in
theorem lk90_32 : xAt kT90 32 (.invokevirtual 135) 35 := ⟨3, rfl, Or.inr rfl, rfl⟩
set_option maxRecDepth 100000 in
theorem lk90_35 : xAt kT90 35 (.ifCond .ge 11) 38 := ⟨3, rfl, Or.inr rfl, rfl⟩
set_option maxRecDepth 100000 in
theorem lk90_38 : xAt kT90 38 (.iload 5) 40 := ⟨2, rfl, Or.inr rfl, rfl⟩
set_option maxRecDepth 100000 in
theorem lk90_40 : xAt kT90 40 (.iconst 1) 41 := ⟨1, rfl, Or.inr rfl, rfl⟩
set_option maxRecDepth 100000 in
theorem lk90_41 : xAt kT90 41 (.iadd) 42 := ⟨1, rfl, Or.inr rfl, rfl⟩
set_option maxRecDepth 100000 in
theorem lk90_42 : xAt kT90 42 (.istore_n 3) 43 := ⟨1, rfl, Or.inr rfl, rfl⟩
set_option maxRecDepth 100000 in
theorem lk90_43 : xAt kT90 43 (.goto 7) 46 := ⟨3, rfl, Or.inr rfl, rfl⟩
set_option maxRecDepth 100000 in
theorem lk90_46 : xAt kT90 46 (.iload 5) 48 := ⟨2, rfl, Or.inr rfl, rfl⟩
set_option maxRecDepth 100000 in
theorem lk90_48 : xAt kT90 48 (.istore 4) 50 := ⟨2, rfl, Or.inr rfl, rfl⟩
set_option maxRecDepth 100000 in
theorem lk90_50 : xAt kT90 50 (.goto (-42)) 53 := ⟨3, rfl, Or.inr rfl, rfl⟩
set_option maxRecDepth 100000 in
theorem lk90_53 : xAt kT90 53 (.iload_n 3) 54 := ⟨1, rfl, Or.inr rfl, rfl⟩
set_option maxRecDepth 100000 in
theorem lk90_54 : xAt kT90 54 (.ireturn) 55 := ⟨1, rfl, Or.inr rfl, rfl⟩
set_option maxRecDepth 100000 in
theorem lk100_0 : xAt kT100 0 (.aload_n 0) 1 := ⟨1, rfl, Or.inr rfl, rfl⟩
set_option maxRecDepth 100000 in
theorem lk100_1 : xAt kT100 1 (.getfield 31) 4 := ⟨3, rfl, Or.inr rfl, rfl⟩
set_option maxRecDepth 100000 in
theorem lk100_4 : xAt kT100 4 (.iconst 0) 5 := ⟨1, rfl, Or.inr rfl, rfl⟩
set_option maxRecDepth 100000 in
theorem lk100_5 : xAt kT100 5 (.iload_n 1) 6 := ⟨1, rfl, Or.inr rfl, rfl⟩
set_option maxRecDepth 100000 in
theorem lk100_6 : xAt kT100 6 (.i2b) 7 := ⟨1, rfl, Or.inr rfl, rfl⟩
set_option maxRecDepth 100000 in
theorem lk100_7 : xAt kT100 7 (.bastore) 8 := ⟨1, rfl, Or.inr rfl, rfl⟩
set_option maxRecDepth 100000 in
theorem lk100_8 : xAt kT100 8 (.aload_n 0) 9 := ⟨1, rfl, Or.inr rfl, rfl⟩
set_option maxRecDepth 100000 in
theorem lk100_9 : xAt kT100 9 (.iconst 1) 10 := ⟨1, rfl, Or.inr rfl, rfl⟩
set_option maxRecDepth 100000 in
theorem lk100_10 : xAt kT100 10 (.putfield 57) 13 := ⟨3, rfl, Or.inr rfl, rfl⟩
set_option maxRecDepth 100000 in
theorem lk100_13 : xAt kT100 13 (.iload_n 2) 14 := ⟨1, rfl, Or.inr rfl, rfl⟩
set_option maxRecDepth 100000 in
theorem lk100_14 : xAt kT100 14 (.ifCond .lt 59) 17 := ⟨3, rfl, Or.inr rfl, rfl⟩
set_option maxRecDepth 100000 in
theorem lk100_17 : xAt kT100 17 (.iload_n 2) 18 := ⟨1, rfl, Or.inr rfl, rfl⟩
set_option maxRecDepth 100000 in
theorem lk100_18 : xAt kT100 18 (.aload_n 0) 19 := ⟨1, rfl, Or.inr rfl, rfl⟩
set_option maxRecDepth 100000 in
theorem lk100_19 : xAt kT100 19 (.getfield 45) 22 := ⟨3, rfl, Or.inr rfl, rfl⟩
set_option maxRecDepth 100000 in
theorem lk100_22 : xAt kT100 22 (.if_icmp .ge 51) 25 := ⟨3, rfl, Or.inr rfl, rfl⟩
set_option maxRecDepth 100000 in
theorem lk100_25 : xAt kT100 25 (.aload_n 0) 26 := ⟨1, rfl, Or.inr rfl, rfl⟩
set_option maxRecDepth 100000 in
theorem lk100_26 : xAt kT100 26 (.getfield 19) 29 := ⟨3, rfl, Or.inr rfl, rfl⟩
set_option maxRecDepth 100000 in
theorem lk100_29 : xAt kT100 29 (.iload_n 2) 30 := ⟨1, rfl, Or.inr rfl, rfl⟩
set_option maxRecDepth 100000 in
theorem lk100_30 : xAt kT100 30 (.iaload) 31 := ⟨1, rfl, Or.inr rfl, rfl⟩
set_option maxRecDepth 100000 in
theorem lk100_31 : xAt kT100 31 (.istore_n 3) 32 := ⟨1, rfl, Or.inr rfl, rfl⟩
set_option maxRecDepth 100000 in
theorem lk100_32 : xAt kT100 32 (.aload_n 0) 33 := ⟨1, rfl, Or.inr rfl, rfl⟩
set_option maxRecDepth 100000 in
theorem lk100_33 : xAt kT100 33 (.getfield 28) 36 := ⟨3, rfl, Or.inr rfl, rfl⟩
set_option maxRecDepth 100000 in
theorem lk100_36 : xAt kT100 36 (.iload_n 3) 37 := ⟨1, rfl, Or.inr rfl, rfl⟩
set_option maxRecDepth 100000 in
theorem lk100_37 : xAt kT100 37 (.sipush 132) 40 := ⟨3, rfl, Or.inr rfl, rfl⟩
set_option maxRecDepth 100000 in
theorem lk100_40 : xAt kT100 40 (.imul) 41 := ⟨1, rfl, Or.inr rfl, rfl⟩
set_option maxRecDepth 100000 in
theorem lk100_41 : xAt kT100 41 (.bipush 32) 43 := ⟨2, rfl, Or.inr rfl, rfl⟩
set_option maxRecDepth 100000 in
theorem lk100_43 : xAt kT100 43 (.iadd) 44 := ⟨1, rfl, Or.inr rfl, rfl⟩
set_option maxRecDepth 100000 in
theorem lk100_44 : xAt kT100 44 (.aload_n 0) 45 := ⟨1, rfl, Or.inr rfl, rfl⟩
set_option maxRecDepth 100000 in
theorem lk100_45 : xAt kT100 45 (.getfield 31) 48 := ⟨3, rfl, Or.inr rfl, rfl⟩
set_option maxRecDepth 100000 in
theorem lk100_48 : xAt kT100 48 (.iconst 1) 49 := ⟨1, rfl, Or.inr rfl, rfl⟩
set_option maxRecDepth 100000 in
theorem lk100_49 : xAt kT100 49 (.aload_n 0) 50 := ⟨1, rfl, Or.inr rfl, rfl⟩
set_option maxRecDepth 100000 in
theorem lk100_50 : xAt kT100 50 (.getfield 25) 53 := ⟨3, rfl, Or.inr rfl, rfl⟩
set_option maxRecDepth 100000 in
theorem lk100_53 : xAt kT100 53 (.iload_n 3) 54 := ⟨1, rfl, Or.inr rfl, rfl⟩
set_option maxRecDepth 100000 in
theorem lk100_54 : xAt kT100 54 (.iaload) 55 := ⟨1, rfl, Or.inr rfl, rfl⟩
set_option maxRecDepth 100000 in
theorem lk100_55 : xAt kT100 55 (.invokestatic 68) 58 := ⟨3, rfl, Or.inr rfl, rfl⟩
set_option maxRecDepth 100000 in
theorem lk100_58 : xAt kT100 58 (.aload_n 0) 59 := ⟨1, rfl, Or.inr rfl, rfl⟩
set_option maxRecDepth 100000 in
theorem lk100_59 : xAt kT100 59 (.dup) 60 := ⟨1, rfl, Or.inr rfl, rfl⟩
set_option maxRecDepth 100000 in
theorem lk100_60 : xAt kT100 60 (.getfield 57) 63 := ⟨3, rfl, Or.inr rfl, rfl⟩
set_option maxRecDepth 100000 in
theorem lk100_63 : xAt kT100 63 (.aload_n 0) 64 := ⟨1, rfl, Or.inr rfl, rfl⟩
set_option maxRecDepth 100000 in
theorem lk100_64 : xAt kT100 64 (.getfield 25) 67 := ⟨3, rfl, Or.inr rfl, rfl⟩
set_option maxRecDepth 100000 in
theorem lk100_67 : xAt kT100 67 (.iload_n 3) 68 := ⟨1, rfl, Or.inr rfl, rfl⟩
set_option maxRecDepth 100000 in
theorem lk100_68 : xAt kT100 68 (.iaload) 69 := ⟨1, rfl, Or.inr rfl, rfl⟩
set_option maxRecDepth 100000 in
theorem lk100_69 : xAt kT100 69 (.iadd) 70 := ⟨1, rfl, Or.inr rfl, rfl⟩
set_option maxRecDepth 100000 in
theorem lk100_70 : xAt kT100 70 (.putfield 57) 73 := ⟨3, rfl, Or.inr rfl, rfl⟩
set_option maxRecDepth 100000 in
theorem lk100_73 : xAt kT100 73 (.return_) 74 := ⟨1, rfl, Or.inr rfl, rfl⟩
set_option maxRecDepth 100000 in
theorem lk101_0 : xAt kT101 0 (.aload_n 0) 1 := ⟨1, rfl, Or.inr rfl, rfl⟩
set_option maxRecDepth 100000 in
theorem lk101_1 : xAt kT101 1 (.iload_n 1) 2 := ⟨1, rfl, Or.inr rfl, rfl⟩
set_option maxRecDepth 100000 in
theorem lk101_2 : xAt kT101 2 (.aload_n 0) 3 := ⟨1, rfl, Or.inr rfl, rfl⟩
set_option maxRecDepth 100000 in
theorem lk101_3 : xAt kT101 3 (.getfield 45) 6 := ⟨3, rfl, Or.inr rfl, rfl⟩
set_option maxRecDepth 100000 in
theorem lk101_6 : xAt kT101 6 (.if_icmp .ge 7) 9 := ⟨3, rfl, Or.inr rfl, rfl⟩
set_option maxRecDepth 100000 in
theorem lk101_9 : xAt kT101 9 (.iconst 1) 10 := ⟨1, rfl, Or.inr rfl, rfl⟩
set_option maxRecDepth 100000 in
theorem lk101_10 : xAt kT101 10 (.goto 4) 13 := ⟨3, rfl, Or.inr rfl, rfl⟩
set_option maxRecDepth 100000 in
theorem lk101_13 : xAt kT101 13 (.iconst 0) 14 := ⟨1, rfl, Or.inr rfl, rfl⟩
set_option maxRecDepth 100000 in
theorem lk101_14 : xAt kT101 14 (.iconst (-1)) 15 := ⟨1, rfl, Or.inr rfl, rfl⟩
set_option maxRecDepth 100000 in
theorem lk101_15 : xAt kT101 15 (.invokevirtual 112) 18 := ⟨3, rfl, Or.inr rfl, rfl⟩
set_option maxRecDepth 100000 in
theorem lk101_18 : xAt kT101 18 (.iload_n 1) 19 := ⟨1, rfl, Or.inr rfl, rfl⟩
set_option maxRecDepth 100000 in
theorem lk101_19 : xAt kT101 19 (.aload_n 0) 20 := ⟨1, rfl, Or.inr rfl, rfl⟩
set_option maxRecDepth 100000 in
theorem lk101_20 : xAt kT101 20 (.getfield 45) 23 := ⟨3, rfl, Or.inr rfl, rfl⟩
set_option maxRecDepth 100000 in
theorem lk101_23 : xAt kT101 23 (.if_icmp .ge 98) 26 := ⟨3, rfl, Or.inr rfl, rfl⟩
set_option maxRecDepth 100000 in
theorem lk101_26 : xAt kT101 26 (.aload_n 0) 27 := ⟨1, rfl, Or.inr rfl, rfl⟩
set_option maxRecDepth 100000 in
theorem lk101_27 : xAt kT101 27 (.getfield 19) 30 := ⟨3, rfl, Or.inr rfl, rfl⟩
set_option maxRecDepth 100000 in
theorem lk101_30 : xAt kT101 30 (.iload_n 1) 31 := ⟨1, rfl, Or.inr rfl, rfl⟩
set_option maxRecDepth 100000 in
theorem lk101_31 : xAt kT101 31 (.iaload) 32 := ⟨1, rfl, Or.inr rfl, rfl⟩
set_option maxRecDepth 100000 in
theorem lk101_32 : xAt kT101 32 (.istore_n 2) 33 := ⟨1, rfl, Or.inr rfl, rfl⟩
set_option maxRecDepth 100000 in
theorem lk101_33 : xAt kT101 33 (.aload_n 0) 34 := ⟨1, rfl, Or.inr rfl, rfl⟩
set_option maxRecDepth 100000 in
theorem lk101_34 : xAt kT101 34 (.getfield 31) 37 := ⟨3, rfl, Or.inr rfl, rfl⟩
set_option maxRecDepth 100000 in
theorem lk101_37 : xAt kT101 37 (.iconst 1) 38 := ⟨1, rfl, Or.inr rfl, rfl⟩
set_option maxRecDepth 100000 in
theorem lk101_38 : xAt kT101 38 (.aload_n 0) 39 := ⟨1, rfl, Or.inr rfl, rfl⟩
set_option maxRecDepth 100000 in
theorem lk101_39 : xAt kT101 39 (.getfield 22) 42 := ⟨3, rfl, Or.inr rfl, rfl⟩
set_option maxRecDepth 100000 in
theorem lk101_42 : xAt kT101 42 (.iload_n 2) 43 := ⟨1, rfl, Or.inr rfl, rfl⟩
set_option maxRecDepth 100000 in
theorem lk101_43 : xAt kT101 43 (.iaload) 44 := ⟨1, rfl, Or.inr rfl, rfl⟩
set_option maxRecDepth 100000 in
theorem lk101_44 : xAt kT101 44 (.i2b) 45 := ⟨1, rfl, Or.inr rfl, rfl⟩
set_option maxRecDepth 100000 in
theorem lk101_45 : xAt kT101 45 (.bastore) 46 := ⟨1, rfl, Or.inr rfl, rfl⟩
set_option maxRecDepth 100000 in
theorem lk101_46 : xAt kT101 46 (.aload_n 0) 47 := ⟨1, rfl, Or.inr rfl, rfl⟩
set_option maxRecDepth 100000 in
theorem lk101_47 : xAt kT101 47 (.getfield 28) 50 := ⟨3, rfl, Or.inr rfl, rfl⟩
set_option maxRecDepth 100000 in
theorem lk101_50 : xAt kT101 50 (.iload_n 2) 51 := ⟨1, rfl, Or.inr rfl, rfl⟩
set_option maxRecDepth 100000 in
theorem lk101_51 : xAt kT101 51 (.sipush 132) 54 := ⟨3, rfl, Or.inr rfl, rfl⟩
set_option maxRecDepth 100000 in
theorem lk101_54 : xAt kT101 54 (.imul) 55 := ⟨1, rfl, Or.inr rfl, rfl⟩
set_option maxRecDepth 100000 in
theorem lk101_55 : xAt kT101 55 (.aload_n 0) 56 := ⟨1, rfl, Or.inr rfl, rfl⟩
set_option maxRecDepth 100000 in
theorem lk101_56 : xAt kT101 56 (.getfield 31) 59 := ⟨3, rfl, Or.inr rfl, rfl⟩
set_option maxRecDepth 100000 in
theorem lk101_59 : xAt kT101 59 (.iconst 2) 60 := ⟨1, rfl, Or.inr rfl, rfl⟩
set_option maxRecDepth 100000 in
theorem lk101_60 : xAt kT101 60 (.aload_n 0) 61 := ⟨1, rfl, Or.inr rfl, rfl⟩
set_option maxRecDepth 100000 in
theorem lk101_61 : xAt kT101 61 (.getfield 22) 64 := ⟨3, rfl, Or.inr rfl, rfl⟩
set_option maxRecDepth 100000 in
theorem lk101_64 : xAt kT101 64 (.iload_n 2) 65 := ⟨1, rfl, Or.inr rfl, rfl⟩
set_option maxRecDepth 100000 in
theorem lk101_65 : xAt kT101 65 (.iaload) 66 := ⟨1, rfl, Or.inr rfl, rfl⟩
set_option maxRecDepth 100000 in
theorem lk101_66 : xAt kT101 66 (.invokestatic 68) 69 := ⟨3, rfl, Or.inr rfl, rfl⟩
set_option maxRecDepth 100000 in
theorem lk101_69 : xAt kT101 69 (.aload_n 0) 70 := ⟨1, rfl, Or.inr rfl, rfl⟩
set_option maxRecDepth 100000 in
theorem lk101_70 : xAt kT101 70 (.getfield 28) 73 := ⟨3, rfl, Or.inr rfl, rfl⟩
set_option maxRecDepth 100000 in
theorem lk101_73 : xAt kT101 73 (.iload_n 2) 74 := ⟨1, rfl, Or.inr rfl, rfl⟩
set_option maxRecDepth 100000 in
theorem lk101_74 : xAt kT101 74 (.sipush 132) 77 := ⟨3, rfl, Or.inr rfl, rfl⟩
set_option maxRecDepth 100000 in
theorem lk101_77 : xAt kT101 77 (.imul) 78 := ⟨1, rfl, Or.inr rfl, rfl⟩
set_option maxRecDepth 100000 in
theorem lk101_78 : xAt kT101 78 (.bipush 32) 80 := ⟨2, rfl, Or.inr rfl, rfl⟩
set_option maxRecDepth 100000 in
theorem lk101_80 : xAt kT101 80 (.iadd) 81 := ⟨1, rfl, Or.inr rfl, rfl⟩
set_option maxRecDepth 100000 in
theorem lk101_81 : xAt kT101 81 (.aload_n 0) 82 := ⟨1, rfl, Or.inr rfl, rfl⟩
set_option maxRecDepth 100000 in
theorem lk101_82 : xAt kT101 82 (.getfield 31) 85 := ⟨3, rfl, Or.inr rfl, rfl⟩
set_option maxRecDepth 100000 in
theorem lk101_85 : xAt kT101 85 (.iconst 2) 86 := ⟨1, rfl, Or.inr rfl, rfl⟩
set_option maxRecDepth 100000 in
theorem lk101_86 : xAt kT101 86 (.aload_n 0) 87 := ⟨1, rfl, Or.inr rfl, rfl⟩
set_option maxRecDepth 100000 in
theorem lk101_87 : xAt kT101 87 (.getfield 22) 90 := ⟨3, rfl, Or.inr rfl, rfl⟩
set_option maxRecDepth 100000 in
theorem lk101_90 : xAt kT101 90 (.iload_n 2) 91 := ⟨1, rfl, Or.inr rfl, rfl⟩
set_option maxRecDepth 100000 in
theorem lk101_91 : xAt kT101 91 (.iaload) 92 := ⟨1, rfl, Or.inr rfl, rfl⟩
set_option maxRecDepth 100000 in
theorem lk101_92 : xAt kT101 92 (.iadd) 93 := ⟨1, rfl, Or.inr rfl, rfl⟩
set_option maxRecDepth 100000 in
theorem lk101_93 : xAt kT101 93 (.aload_n 0) 94 := ⟨1, rfl, Or.inr rfl, rfl⟩
set_option maxRecDepth 100000 in
theorem lk101_94 : xAt kT101 94 (.getfield 25) 97 := ⟨3, rfl, Or.inr rfl, rfl⟩
set_option maxRecDepth 100000 in
theorem lk101_97 : xAt kT101 97 (.iload_n 2) 98 := ⟨1, rfl, Or.inr rfl, rfl⟩
set_option maxRecDepth 100000 in
theorem lk101_98 : xAt kT101 98 (.iaload) 99 := ⟨1, rfl, Or.inr rfl, rfl⟩
set_option maxRecDepth 100000 in
theorem lk101_99 : xAt kT101 99 (.invokestatic 68) 102 := ⟨3, rfl, Or.inr rfl, rfl⟩
set_option maxRecDepth 100000 in
theorem lk101_102 : xAt kT101 102 (.aload_n 0) 103 := ⟨1, rfl, Or.inr rfl, rfl⟩
set_option maxRecDepth 100000 in
theorem lk101_103 : xAt kT101 103 (.iconst 2) 104 := ⟨1, rfl, Or.inr rfl, rfl⟩
set_option maxRecDepth 100000 in
theorem lk101_104 : xAt kT101 104 (.aload_n 0) 105 := ⟨1, rfl, Or.inr rfl, rfl⟩
set_option maxRecDepth 100000 in
theorem lk101_105 : xAt kT101 105 (.getfield 22) 108 := ⟨3, rfl, Or.inr rfl, rfl⟩
set_option maxRecDepth 100000 in
theorem lk101_108 : xAt kT101 108 (.iload_n 2) 109 := ⟨1, rfl, Or.inr rfl, rfl⟩
set_option maxRecDepth 100000 in
theorem lk101_109 : xAt kT101 109 (.iaload) 110 := ⟨1, rfl, Or.inr rfl, rfl⟩
set_option maxRecDepth 100000 in
theorem lk101_110 : xAt kT101 110 (.iadd) 111 := ⟨1, rfl, Or.inr rfl, rfl⟩
set_option maxRecDepth 100000 in
theorem lk101_111 : xAt kT101 111 (.aload_n 0) 112 := ⟨1, rfl, Or.inr rfl, rfl⟩
set_option maxRecDepth 100000 in
theorem lk101_112 : xAt kT101 112 (.getfield 25) 115 := ⟨3, rfl, Or.inr rfl, rfl⟩
set_option maxRecDepth 100000 in
theorem lk101_115 : xAt kT101 115 (.iload_n 2) 116 := ⟨1, rfl, Or.inr rfl, rfl⟩
set_option maxRecDepth 100000 in
theorem lk101_116 : xAt kT101 116 (.iaload) 117 := ⟨1, rfl, Or.inr rfl, rfl⟩
set_option maxRecDepth 100000 in
theorem lk101_117 : xAt kT101 117 (.iadd) 118 := ⟨1, rfl, Or.inr rfl, rfl⟩
set_option maxRecDepth 100000 in
theorem lk101_118 : xAt kT101 118 (.putfield 57) 121 := ⟨3, rfl, Or.inr rfl, rfl⟩
set_option maxRecDepth 100000 in
theorem lk101_121 : xAt kT101 121 (.return_) 122 := ⟨1, rfl, Or.inr rfl, rfl⟩
set_option maxRecDepth 100000 in
theorem lk89_0 : xAt kT89 0 (.aload_n 0) 1 := ⟨1, rfl, Or.inr rfl, rfl⟩
set_option maxRecDepth 100000 in
theorem lk89_1 : xAt kT89 1 (.iconst 0) 2 := ⟨1, rfl, Or.inr rfl, rfl⟩
set_option maxRecDepth 100000 in
theorem lk89_2 : xAt kT89 2 (.putfield 57) 5 := ⟨3, rfl, Or.inr rfl, rfl⟩
set_option maxRecDepth 100000 in
theorem lk89_5 : xAt kT89 5 (.aload_n 0) 6 := ⟨1, rfl, Or.inr rfl, rfl⟩
set_option maxRecDepth 100000 in
theorem lk89_6 : xAt kT89 6 (.getfield 37) 9 := ⟨3, rfl, Or.inr rfl, rfl⟩
set_option maxRecDepth 100000 in
theorem lk89_9 : xAt kT89 9 (.iload_n 1) 10 := ⟨1, rfl, Or.inr rfl, rfl⟩
set_option maxRecDepth 100000 in
theorem lk89_10 : xAt kT89 10 (.bipush 6) 12 := ⟨2, rfl, Or.inr rfl, rfl⟩
set_option maxRecDepth 100000 in
theorem lk89_12 : xAt kT89 12 (.invokevirtual 76) 15 := ⟨3, rfl, Or.inr rfl, rfl⟩
set_option maxRecDepth 100000 in
theorem lk89_15 : xAt kT89 15 (.istore_n 2) 16 := ⟨1, rfl, Or.inr rfl, rfl⟩
set_option maxRecDepth 100000 in
theorem lk89_16 : xAt kT89 16 (.aload_n 0) 17 := ⟨1, rfl, Or.inr rfl, rfl⟩
set_option maxRecDepth 100000 in
theorem lk89_17 : xAt kT89 17 (.getfield 37) 20 := ⟨3, rfl, Or.inr rfl, rfl⟩
set_option maxRecDepth 100000 in
theorem lk89_20 : xAt kT89 20 (.iload_n 1) 21 := ⟨1, rfl, Or.inr rfl, rfl⟩
set_option maxRecDepth 100000 in
theorem lk89_21 : xAt kT89 21 (.bipush 7) 23 := ⟨2, rfl, Or.inr rfl, rfl⟩
set_option maxRecDepth 100000 in
theorem lk89_23 : xAt kT89 23 (.invokevirtual 76) 26 := ⟨3, rfl, Or.inr rfl, rfl⟩
set_option maxRecDepth 100000 in
theorem lk89_26 : xAt kT89 26 (.istore_n 3) 27 := ⟨1, rfl, Or.inr rfl, rfl⟩
set_option maxRecDepth 100000 in
theorem lk89_27 : xAt kT89 27 (.aload_n 0) 28 := ⟨1, rfl, Or.inr rfl, rfl⟩
set_option maxRecDepth 100000 in
theorem lk89_28 : xAt kT89 28 (.getfield 37) 31 := ⟨3, rfl, Or.inr rfl, rfl⟩
set_option maxRecDepth 100000 in
theorem lk89_31 : xAt kT89 31 (.iload_n 1) 32 := ⟨1, rfl, Or.inr rfl, rfl⟩
set_option maxRecDepth 100000 in
theorem lk89_32 : xAt kT89 32 (.bipush 9) 34 := ⟨2, rfl, Or.inr rfl, rfl⟩
set_option maxRecDepth 100000 in
theorem lk89_34 : xAt kT89 34 (.invokevirtual 76) 37 := ⟨3, rfl, Or.inr rfl, rfl⟩
set_option maxRecDepth 100000 in
theorem lk89_37 : xAt kT89 37 (.iload_n 3) 38 := ⟨1, rfl, Or.inr rfl, rfl⟩
set_option maxRecDepth 100000 in
theorem lk89_38 : xAt kT89 38 (.isub) 39 := ⟨1, rfl, Or.inr rfl, rfl⟩
set_option maxRecDepth 100000 in
theorem lk89_39 : xAt kT89 39 (.istore 4) 41 := ⟨2, rfl, Or.inr rfl, rfl⟩
set_option maxRecDepth 100000 in
theorem lk89_41 : xAt kT89 41 (.aload_n 0) 42 := ⟨1, rfl, Or.inr rfl, rfl⟩
set_option maxRecDepth 100000 in
theorem lk89_42 : xAt kT89 42 (.iload_n 2) 43 := ⟨1, rfl, Or.inr rfl, rfl⟩
set_option maxRecDepth 100000 in
theorem lk89_43 : xAt kT89 43 (.iload_n 3) 44 := ⟨1, rfl, Or.inr rfl, rfl⟩
set_option maxRecDepth 100000 in
theorem lk89_44 : xAt kT89 44 (.invokevirtual 101) 47 := ⟨3, rfl, Or.inr rfl, rfl⟩
set_option maxRecDepth 100000 in
theorem lk89_47 : xAt kT89 47 (.istore 5) 49 := ⟨2, rfl, Or.inr rfl, rfl⟩
set_option maxRecDepth 100000 in
theorem lk89_49 : xAt kT89 49 (.aload_n 0) 50 := ⟨1, rfl, Or.inr rfl, rfl⟩
set_option maxRecDepth 100000 in
theorem lk89_50 : xAt kT89 50 (.getfield 37) 53 := ⟨3, rfl, Or.inr rfl, rfl⟩
set_option maxRecDepth 100000 in
theorem lk89_53 : xAt kT89 53 (.iload_n 1) 54 := ⟨1, rfl, Or.inr rfl, rfl⟩
set_option maxRecDepth 100000 in
theorem lk89_54 : xAt kT89 54 (.iconst 1) 55 := ⟨1, rfl, Or.inr rfl, rfl⟩
set_option maxRecDepth 100000 in
theorem lk89_55 : xAt kT89 55 (.invokevirtual 76) 58 := ⟨3, rfl, Or.inr rfl, rfl⟩
set_option maxRecDepth 100000 in
theorem lk89_58 : xAt kT89 58 (.lookupswitch 113 #[(3, 26), (4, 64)]) 84 := ⟨26, rfl, Or.inl rfl, rfl⟩
set_option maxRecDepth 100000 in
theorem lk89_84 : xAt kT89 84 (.aload_n 0) 85 := ⟨1, rfl, Or.inr rfl, rfl⟩
set_option maxRecDepth 100000 in
theorem lk89_85 : xAt kT89 85 (.iload 5) 87 := ⟨2, rfl, Or.inr rfl, rfl⟩
set_option maxRecDepth 100000 in
theorem lk89_87 : xAt kT89 87 (.iload_n 2) 88 := ⟨1, rfl, Or.inr rfl, rfl⟩
set_option maxRecDepth 100000 in
theorem lk89_88 : xAt kT89 88 (.iload_n 3) 89 := ⟨1, rfl, Or.inr rfl, rfl⟩
set_option maxRecDepth 100000 in
theorem lk89_89 : xAt kT89 89 (.invokevirtual 104) 92 := ⟨3, rfl, Or.inr rfl, rfl⟩
set_option maxRecDepth 100000 in
theorem lk89_92 : xAt kT89 92 (.istore 6) 94 := ⟨2, rfl, Or.inr rfl, rfl⟩
set_option maxRecDepth 100000 in
theorem lk89_94 : xAt kT89 94 (.aload_n 0) 95 := ⟨1, rfl, Or.inr rfl, rfl⟩
set_option maxRecDepth 100000 in
theorem lk89_95 : xAt kT89 95 (.iload 6) 97 := ⟨2, rfl, Or.inr rfl, rfl⟩
set_option maxRecDepth 100000 in
theorem lk89_97 : xAt kT89 97 (.ifCond .eq 7) 100 := ⟨3, rfl, Or.inr rfl, rfl⟩
set_option maxRecDepth 100000 in
theorem lk89_100 : xAt kT89 100 (.iconst 1) 101 := ⟨1, rfl, Or.inr rfl, rfl⟩
set_option maxRecDepth 100000 in
theorem lk89_101 : xAt kT89 101 (.goto 4) 104 := ⟨3, rfl, Or.inr rfl, rfl⟩
set_option maxRecDepth 100000 in
theorem lk89_104 : xAt kT89 104 (.iconst 0) 105 := ⟨1, rfl, Or.inr rfl, rfl⟩
set_option maxRecDepth 100000 in
theorem lk89_105 : xAt kT89 105 (.iload 6) 107 := ⟨2, rfl, Or.inr rfl, rfl⟩
set_option maxRecDepth 100000 in
theorem lk89_107 : xAt kT89 107 (.ifCond .eq 8) 110 := ⟨3, rfl, Or.inr rfl, rfl⟩
set_option maxRecDepth 100000 in
theorem lk89_110 : xAt kT89 110 (.iload 5) 112 := ⟨2, rfl, Or.inr rfl, rfl⟩
set_option maxRecDepth 100000 in
theorem lk89_112 : xAt kT89 112 (.goto 4) 115 := ⟨3, rfl, Or.inr rfl, rfl⟩
set_option maxRecDepth 100000 in
theorem lk89_115 : xAt kT89 115 (.iconst (-1)) 116 := ⟨1, rfl, Or.inr rfl, rfl⟩
set_option maxRecDepth 100000 in
theorem lk89_116 : xAt kT89 116 (.invokevirtual 112) 119 := ⟨3, rfl, Or.inr rfl, rfl⟩
set_option maxRecDepth 100000 in
theorem lk89_119 : xAt kT89 119 (.goto 58) 122 := ⟨3, rfl, Or.inr rfl, rfl⟩
set_option maxRecDepth 100000 in
theorem lk89_122 : xAt kT89 122 (.iconst 0) 123 := ⟨1, rfl, Or.inr rfl, rfl⟩
set_option maxRecDepth 100000 in
theorem lk89_123 : xAt kT89 123 (.aload_n 0) 124 := ⟨1, rfl, Or.inr rfl, rfl⟩
set_option maxRecDepth 100000 in
theorem lk89_124 : xAt kT89 124 (.iload_n 2) 125 := ⟨1, rfl, Or.inr rfl, rfl⟩
set_option maxRecDepth 100000 in
theorem lk89_125 : xAt kT89 125 (.iload_n 3) 126 := ⟨1, rfl, Or.inr rfl, rfl⟩
set_option maxRecDepth 100000 in
theorem lk89_126 : xAt kT89 126 (.iadd) 127 := ⟨1, rfl, Or.inr rfl, rfl⟩
set_option maxRecDepth 100000 in
theorem lk89_127 : xAt kT89 127 (.iload 4) 129 := ⟨2, rfl, Or.inr rfl, rfl⟩
set_option maxRecDepth 100000 in
theorem lk89_129 : xAt kT89 129 (.invokevirtual 101) 132 := ⟨3, rfl, Or.inr rfl, rfl⟩
set_option maxRecDepth 100000 in
theorem lk89_132 : xAt kT89 132 (.iload 5) 134 := ⟨2, rfl, Or.inr rfl, rfl⟩
set_option maxRecDepth 100000 in
theorem lk89_134 : xAt kT89 134 (.isub) 135 := ⟨1, rfl, Or.inr rfl, rfl⟩
set_option maxRecDepth 100000 in
theorem lk89_135 : xAt kT89 135 (.invokestatic 127) 138 := ⟨3, rfl, Or.inr rfl, rfl⟩
set_option maxRecDepth 100000 in
theorem lk89_138 : xAt kT89 138 (.istore 7) 140 := ⟨2, rfl, Or.inr rfl, rfl⟩
set_option maxRecDepth 100000 in
theorem lk89_140 : xAt kT89 140 (.aload_n 0) 141 := ⟨1, rfl, Or.inr rfl, rfl⟩
set_option maxRecDepth 100000 in
theorem lk89_141 : xAt kT89 141 (.iload 7) 143 := ⟨2, rfl, Or.inr rfl, rfl⟩
set_option maxRecDepth 100000 in
theorem lk89_143 : xAt kT89 143 (.sipush 255) 146 := ⟨3, rfl, Or.inr rfl, rfl⟩
set_option maxRecDepth 100000 in
theorem lk89_146 : xAt kT89 146 (.iand) 147 := ⟨1, rfl, Or.inr rfl, rfl⟩
set_option maxRecDepth 100000 in
theorem lk89_147 : xAt kT89 147 (.iconst (-1)) 148 := ⟨1, rfl, Or.inr rfl, rfl⟩
set_option maxRecDepth 100000 in
theorem lk89_148 : xAt kT89 148 (.invokevirtual 112) 151 := ⟨3, rfl, Or.inr rfl, rfl⟩
set_option maxRecDepth 100000 in
theorem lk89_151 : xAt kT89 151 (.aload_n 0) 152 := ⟨1, rfl, Or.inr rfl, rfl⟩
set_option maxRecDepth 100000 in
theorem lk89_152 : xAt kT89 152 (.getfield 31) 155 := ⟨3, rfl, Or.inr rfl, rfl⟩
set_option maxRecDepth 100000 in
theorem lk89_155 : xAt kT89 155 (.iconst 1) 156 := ⟨1, rfl, Or.inr rfl, rfl⟩
set_option maxRecDepth 100000 in
theorem lk89_156 : xAt kT89 156 (.iload 7) 158 := ⟨2, rfl, Or.inr rfl, rfl⟩
set_option maxRecDepth 100000 in
theorem lk89_158 : xAt kT89 158 (.bipush 8) 160 := ⟨2, rfl, Or.inr rfl, rfl⟩
set_option maxRecDepth 100000 in
theorem lk89_160 : xAt kT89 160 (.ishr) 161 := ⟨1, rfl, Or.inr rfl, rfl⟩
set_option maxRecDepth 100000 in
theorem lk89_161 : xAt kT89 161 (.i2b) 162 := ⟨1, rfl, Or.inr rfl, rfl⟩
set_option maxRecDepth 100000 in
theorem lk89_162 : xAt kT89 162 (.bastore) 163 := ⟨1, rfl, Or.inr rfl, rfl⟩
set_option maxRecDepth 100000 in
theorem lk89_163 : xAt kT89 163 (.aload_n 0) 164 := ⟨1, rfl, Or.inr rfl, rfl⟩
set_option maxRecDepth 100000 in
theorem lk89_164 : xAt kT89 164 (.iconst 2) 165 := ⟨1, rfl, Or.inr rfl, rfl⟩
set_option maxRecDepth 100000 in
theorem lk89_165 : xAt kT89 165 (.putfield 57) 168 := ⟨3, rfl, Or.inr rfl, rfl⟩
set_option maxRecDepth 100000 in
theorem lk89_168 : xAt kT89 168 (.goto 9) 171 := ⟨3, rfl, Or.inr rfl, rfl⟩
set_option maxRecDepth 100000 in
theorem lk89_171 : xAt kT89 171 (.aload_n 0) 172 := ⟨1, rfl, Or.inr rfl, rfl⟩
set_option maxRecDepth 100000 in
theorem lk89_172 : xAt kT89 172 (.iload 5) 174 := ⟨2, rfl, Or.inr rfl, rfl⟩
set_option maxRecDepth 100000 in
theorem lk89_174 : xAt kT89 174 (.invokevirtual 132) 177 := ⟨3, rfl, Or.inr rfl, rfl⟩
set_option maxRecDepth 100000 in
theorem lk89_177 : xAt kT89 177 (.return_) 178 := ⟨1, rfl, Or.inr rfl, rfl⟩
set_option maxRecDepth 100000 in
theorem lk91_0 : xAt kT91 0 (.iload_n 2) 1 := ⟨1, rfl, Or.inr rfl, rfl⟩
set_option maxRecDepth 100000 in
theorem lk91_1 : xAt kT91 1 (.ifCond .eq 11) 4 := ⟨3, rfl, Or.inr rfl, rfl⟩
set_option maxRecDepth 100000 in
theorem lk91_4 : xAt kT91 4 (.aload_n 0) 5 := ⟨1, rfl, Or.inr rfl, rfl⟩
set_option maxRecDepth 100000 in
theorem lk91_5 : xAt kT91 5 (.iload_n 1) 6 := ⟨1, rfl, Or.inr rfl, rfl⟩
set_option maxRecDepth 100000 in
theorem lk91_6 : xAt kT91 6 (.invokevirtual 124) 9 := ⟨3, rfl, Or.inr rfl, rfl⟩
set_option maxRecDepth 100000 in
theorem lk91_9 : xAt kT91 9 (.goto 4) 12 := ⟨3, rfl, Or.inr rfl, rfl⟩
set_option maxRecDepth 100000 in
theorem lk91_12 : xAt kT91 12 (.iconst 0) 13 := ⟨1, rfl, Or.inr rfl, rfl⟩
set_option maxRecDepth 100000 in
theorem lk91_13 : xAt kT91 13 (.istore 4) 15 := ⟨2, rfl, Or.inr rfl, rfl⟩
set_option maxRecDepth 100000 in
theorem lk91_15 : xAt kT91 15 (.iload_n 2) 16 := ⟨1, rfl, Or.inr rfl, rfl⟩
set_option maxRecDepth 100000 in
theorem lk91_16 : xAt kT91 16 (.ifCond .ne 13) 19 := ⟨3, rfl, Or.inr rfl, rfl⟩
set_option maxRecDepth 100000 in
theorem lk91_19 : xAt kT91 19 (.aload_n 0) 20 := ⟨1, rfl, Or.inr rfl, rfl⟩
set_option maxRecDepth 100000 in
theorem lk91_20 : xAt kT91 20 (.getfield 45) 23 := ⟨3, rfl, Or.inr rfl, rfl⟩
set_option maxRecDepth 100000 in
theorem lk91_23 : xAt kT91 23 (.sipush 128) 26 := ⟨3, rfl, Or.inr rfl, rfl⟩
set_option maxRecDepth 100000 in
theorem lk91_26 : xAt kT91 26 (.if_icmp .ge 28) 29 := ⟨3, rfl, Or.inr rfl, rfl⟩
set_option maxRecDepth 100000 in
theorem lk91_29 : xAt kT91 29 (.aload_n 0) 30 := ⟨1, rfl, Or.inr rfl, rfl⟩
set_option maxRecDepth 100000 in
theorem lk91_30 : xAt kT91 30 (.getfield 48) 33 := ⟨3, rfl, Or.inr rfl, rfl⟩
set_option maxRecDepth 100000 in
theorem lk91_33 : xAt kT91 33 (.iload 4) 35 := ⟨2, rfl, Or.inr rfl, rfl⟩
set_option maxRecDepth 100000 in
theorem lk91_35 : xAt kT91 35 (.isub) 36 := ⟨1, rfl, Or.inr rfl, rfl⟩
set_option maxRecDepth 100000 in
theorem lk91_36 : xAt kT91 36 (.iload_n 3) 37 := ⟨1, rfl, Or.inr rfl, rfl⟩
set_option maxRecDepth 100000 in
theorem lk91_37 : xAt kT91 37 (.bipush 15) 39 := ⟨2, rfl, Or.inr rfl, rfl⟩
set_option maxRecDepth 100000 in
theorem lk91_39 : xAt kT91 39 (.iadd) 40 := ⟨1, rfl, Or.inr rfl, rfl⟩
set_option maxRecDepth 100000 in
theorem lk91_40 : xAt kT91 40 (.bipush 16) 42 := ⟨2, rfl, Or.inr rfl, rfl⟩
set_option maxRecDepth 100000 in
theorem lk91_42 : xAt kT91 42 (.idiv) 43 := ⟨1, rfl, Or.inr rfl, rfl⟩
set_option maxRecDepth 100000 in
theorem lk91_43 : xAt kT91 43 (.iadd) 44 := ⟨1, rfl, Or.inr rfl, rfl⟩
set_option maxRecDepth 100000 in
theorem lk91_44 : xAt kT91 44 (.sipush 700) 47 := ⟨3, rfl, Or.inr rfl, rfl⟩
set_option maxRecDepth 100000 in
theorem lk91_47 : xAt kT91 47 (.if_icmp .gt 7) 50 := ⟨3, rfl, Or.inr rfl, rfl⟩
set_option maxRecDepth 100000 in
theorem lk91_50 : xAt kT91 50 (.iconst 1) 51 := ⟨1, rfl, Or.inr rfl, rfl⟩
set_option maxRecDepth 100000 in
theorem lk91_51 : xAt kT91 51 (.goto 4) 54 := ⟨3, rfl, Or.inr rfl, rfl⟩
set_option maxRecDepth 100000 in
theorem lk91_54 : xAt kT91 54 (.iconst 0) 55 := ⟨1, rfl, Or.inr rfl, rfl⟩
set_option maxRecDepth 100000 in
theorem lk91_55 : xAt kT91 55 (.ireturn) 56 := ⟨1, rfl, Or.inr rfl, rfl⟩
set_option maxRecDepth 100000 in
theorem lk93_0 : xAt kT93 0 (.aload_n 0) 1 := ⟨1, rfl, Or.inr rfl, rfl⟩
set_option maxRecDepth 100000 in
theorem lk93_1 : xAt kT93 1 (.getfield 41) 4 := ⟨3, rfl, Or.inr rfl, rfl⟩
set_option maxRecDepth 100000 in
theorem lk93_4 : xAt kT93 4 (.bipush 16) 6 := ⟨2, rfl, Or.inr rfl, rfl⟩
set_option maxRecDepth 100000 in
theorem lk93_6 : xAt kT93 6 (.if_icmp .ne 7) 9 := ⟨3, rfl, Or.inr rfl, rfl⟩
set_option maxRecDepth 100000 in
theorem lk93_9 : xAt kT93 9 (.aload_n 0) 10 := ⟨1, rfl, Or.inr rfl, rfl⟩
set_option maxRecDepth 100000 in
theorem lk93_10 : xAt kT93 10 (.invokevirtual 92) 13 := ⟨3, rfl, Or.inr rfl, rfl⟩
set_option maxRecDepth 100000 in
theorem lk93_13 : xAt kT93 13 (.aload_n 0) 14 := ⟨1, rfl, Or.inr rfl, rfl⟩
set_option maxRecDepth 100000 in
theorem lk93_14 : xAt kT93 14 (.getfield 41) 17 := ⟨3, rfl, Or.inr rfl, rfl⟩
set_option maxRecDepth 100000 in
theorem lk93_17 : xAt kT93 17 (.iconst 5) 18 := ⟨1, rfl, Or.inr rfl, rfl⟩
set_option maxRecDepth 100000 in
theorem lk93_18 : xAt kT93 18 (.imul) 19 := ⟨1, rfl, Or.inr rfl, rfl⟩
set_option maxRecDepth 100000 in
theorem lk93_19 : xAt kT93 19 (.istore_n 2) 20 := ⟨1, rfl, Or.inr rfl, rfl⟩
set_option maxRecDepth 100000 in
theorem lk93_20 : xAt kT93 20 (.aload_n 0) 21 := ⟨1, rfl, Or.inr rfl, rfl⟩
set_option maxRecDepth 100000 in
theorem lk93_21 : xAt kT93 21 (.getfield 11) 24 := ⟨3, rfl, Or.inr rfl, rfl⟩
set_option maxRecDepth 100000 in
theorem lk93_24 : xAt kT93 24 (.iload_n 2) 25 := ⟨1, rfl, Or.inr rfl, rfl⟩
set_option maxRecDepth 100000 in
theorem lk93_25 : xAt kT93 25 (.iload_n 2) 26 := ⟨1, rfl, Or.inr rfl, rfl⟩
set_option maxRecDepth 100000 in
theorem lk93_26 : xAt kT93 26 (.iconst 5) 27 := ⟨1, rfl, Or.inr rfl, rfl⟩
set_option maxRecDepth 100000 in
theorem lk93_27 : xAt kT93 27 (.iadd) 28 := ⟨1, rfl, Or.inr rfl, rfl⟩
set_option maxRecDepth 100000 in
theorem lk93_28 : xAt kT93 28 (.iconst 0) 29 := ⟨1, rfl, Or.inr rfl, rfl⟩
set_option maxRecDepth 100000 in
theorem lk93_29 : xAt kT93 29 (.invokestatic 95) 32 := ⟨3, rfl, Or.inr rfl, rfl⟩
set_option maxRecDepth 100000 in
theorem lk93_32 : xAt kT93 32 (.aload_n 0) 33 := ⟨1, rfl, Or.inr rfl, rfl⟩
set_option maxRecDepth 100000 in
theorem lk93_33 : xAt kT93 33 (.getfield 11) 36 := ⟨3, rfl, Or.inr rfl, rfl⟩
set_option maxRecDepth 100000 in
theorem lk93_36 : xAt kT93 36 (.iload_n 2) 37 := ⟨1, rfl, Or.inr rfl, rfl⟩
set_option maxRecDepth 100000 in
theorem lk93_37 : xAt kT93 37 (.iload_n 1) 38 := ⟨1, rfl, Or.inr rfl, rfl⟩
set_option maxRecDepth 100000 in
theorem lk93_38 : xAt kT93 38 (.iastore) 39 := ⟨1, rfl, Or.inr rfl, rfl⟩
set_option maxRecDepth 100000 in
theorem lk93_39 : xAt kT93 39 (.aload_n 0) 40 := ⟨1, rfl, Or.inr rfl, rfl⟩
set_option maxRecDepth 100000 in
theorem lk93_40 : xAt kT93 40 (.getfield 11) 43 := ⟨3, rfl, Or.inr rfl, rfl⟩
set_option maxRecDepth 100000 in
theorem lk93_43 : xAt kT93 43 (.iload_n 2) 44 := ⟨1, rfl, Or.inr rfl, rfl⟩
set_option maxRecDepth 100000 in
theorem lk93_44 : xAt kT93 44 (.iconst 1) 45 := ⟨1, rfl, Or.inr rfl, rfl⟩
set_option maxRecDepth 100000 in
theorem lk93_45 : xAt kT93 45 (.iadd) 46 := ⟨1, rfl, Or.inr rfl, rfl⟩
set_option maxRecDepth 100000 in
theorem lk93_46 : xAt kT93 46 (.iload_n 1) 47 := ⟨1, rfl, Or.inr rfl, rfl⟩
set_option maxRecDepth 100000 in
theorem lk93_47 : xAt kT93 47 (.iastore) 48 := ⟨1, rfl, Or.inr rfl, rfl⟩
set_option maxRecDepth 100000 in
theorem lk93_48 : xAt kT93 48 (.aload_n 0) 49 := ⟨1, rfl, Or.inr rfl, rfl⟩
set_option maxRecDepth 100000 in
theorem lk93_49 : xAt kT93 49 (.dup) 50 := ⟨1, rfl, Or.inr rfl, rfl⟩
set_option maxRecDepth 100000 in
theorem lk93_50 : xAt kT93 50 (.getfield 41) 53 := ⟨3, rfl, Or.inr rfl, rfl⟩
set_option maxRecDepth 100000 in
theorem lk93_53 : xAt kT93 53 (.iconst 1) 54 := ⟨1, rfl, Or.inr rfl, rfl⟩
set_option maxRecDepth 100000 in
theorem lk93_54 : xAt kT93 54 (.iadd) 55 := ⟨1, rfl, Or.inr rfl, rfl⟩
set_option maxRecDepth 100000 in
theorem lk93_55 : xAt kT93 55 (.putfield 41) 58 := ⟨3, rfl, Or.inr rfl, rfl⟩
set_option maxRecDepth 100000 in
theorem lk93_58 : xAt kT93 58 (.return_) 59 := ⟨1, rfl, Or.inr rfl, rfl⟩
set_option maxRecDepth 100000 in
theorem lk96_0 : xAt kT96 0 (.aload_n 0) 1 := ⟨1, rfl, Or.inr rfl, rfl⟩
set_option maxRecDepth 100000 in
theorem lk96_1 : xAt kT96 1 (.iload_n 1) 2 := ⟨1, rfl, Or.inr rfl, rfl⟩
set_option maxRecDepth 100000 in
theorem lk96_2 : xAt kT96 2 (.iload_n 2) 3 := ⟨1, rfl, Or.inr rfl, rfl⟩
set_option maxRecDepth 100000 in
theorem lk96_3 : xAt kT96 3 (.invokevirtual 101) 6 := ⟨3, rfl, Or.inr rfl, rfl⟩
set_option maxRecDepth 100000 in
theorem lk96_6 : xAt kT96 6 (.istore_n 3) 7 := ⟨1, rfl, Or.inr rfl, rfl⟩
set_option maxRecDepth 100000 in
theorem lk96_7 : xAt kT96 7 (.aload_n 0) 8 := ⟨1, rfl, Or.inr rfl, rfl⟩
set_option maxRecDepth 100000 in
theorem lk96_8 : xAt kT96 8 (.iload_n 3) 9 := ⟨1, rfl, Or.inr rfl, rfl⟩
set_option maxRecDepth 100000 in
theorem lk96_9 : xAt kT96 9 (.iload_n 1) 10 := ⟨1, rfl, Or.inr rfl, rfl⟩
set_option maxRecDepth 100000 in
theorem lk96_10 : xAt kT96 10 (.iload_n 2) 11 := ⟨1, rfl, Or.inr rfl, rfl⟩
set_option maxRecDepth 100000 in
theorem lk96_11 : xAt kT96 11 (.invokevirtual 104) 14 := ⟨3, rfl, Or.inr rfl, rfl⟩
set_option maxRecDepth 100000 in
theorem lk96_14 : xAt kT96 14 (.ifCond .ne 10) 17 := ⟨3, rfl, Or.inr rfl, rfl⟩
set_option maxRecDepth 100000 in
theorem lk96_17 : xAt kT96 17 (.aload_n 0) 18 := ⟨1, rfl, Or.inr rfl, rfl⟩
set_option maxRecDepth 100000 in
theorem lk96_18 : xAt kT96 18 (.iconst 0) 19 := ⟨1, rfl, Or.inr rfl, rfl⟩
set_option maxRecDepth 100000 in
theorem lk96_19 : xAt kT96 19 (.iconst (-1)) 20 := ⟨1, rfl, Or.inr rfl, rfl⟩
set_option maxRecDepth 100000 in
theorem lk96_20 : xAt kT96 20 (.invokevirtual 112) 23 := ⟨3, rfl, Or.inr rfl, rfl⟩
set_option maxRecDepth 100000 in
theorem lk96_23 : xAt kT96 23 (.return_) 24 := ⟨1, rfl, Or.inr rfl, rfl⟩
set_option maxRecDepth 100000 in
theorem lk96_24 : xAt kT96 24 (.aload_n 0) 25 := ⟨1, rfl, Or.inr rfl, rfl⟩
set_option maxRecDepth 100000 in
theorem lk96_25 : xAt kT96 25 (.iconst 1) 26 := ⟨1, rfl, Or.inr rfl, rfl⟩
set_option maxRecDepth 100000 in
theorem lk96_26 : xAt kT96 26 (.iload_n 3) 27 := ⟨1, rfl, Or.inr rfl, rfl⟩
set_option maxRecDepth 100000 in
theorem lk96_27 : xAt kT96 27 (.invokevirtual 112) 30 := ⟨3, rfl, Or.inr rfl, rfl⟩
set_option maxRecDepth 100000 in
theorem lk96_30 : xAt kT96 30 (.aload_n 0) 31 := ⟨1, rfl, Or.inr rfl, rfl⟩
set_option maxRecDepth 100000 in
theorem lk96_31 : xAt kT96 31 (.getfield 19) 34 := ⟨3, rfl, Or.inr rfl, rfl⟩
set_option maxRecDepth 100000 in
theorem lk96_34 : xAt kT96 34 (.iload_n 3) 35 := ⟨1, rfl, Or.inr rfl, rfl⟩
set_option maxRecDepth 100000 in
theorem lk96_35 : xAt kT96 35 (.iaload) 36 := ⟨1, rfl, Or.inr rfl, rfl⟩
set_option maxRecDepth 100000 in
theorem lk96_36 : xAt kT96 36 (.istore 4) 38 := ⟨2, rfl, Or.inr rfl, rfl⟩
set_option maxRecDepth 100000 in
theorem lk96_38 : xAt kT96 38 (.aload_n 0) 39 := ⟨1, rfl, Or.inr rfl, rfl⟩
set_option maxRecDepth 100000 in
theorem lk96_39 : xAt kT96 39 (.dup) 40 := ⟨1, rfl, Or.inr rfl, rfl⟩
set_option maxRecDepth 100000 in
theorem lk96_40 : xAt kT96 40 (.getfield 48) 43 := ⟨3, rfl, Or.inr rfl, rfl⟩
set_option maxRecDepth 100000 in
theorem lk96_43 : xAt kT96 43 (.aload_n 0) 44 := ⟨1, rfl, Or.inr rfl, rfl⟩
set_option maxRecDepth 100000 in
theorem lk96_44 : xAt kT96 44 (.iload_n 3) 45 := ⟨1, rfl, Or.inr rfl, rfl⟩
set_option maxRecDepth 100000 in
theorem lk96_45 : xAt kT96 45 (.invokevirtual 124) 48 := ⟨3, rfl, Or.inr rfl, rfl⟩
set_option maxRecDepth 100000 in
theorem lk96_48 : xAt kT96 48 (.isub) 49 := ⟨1, rfl, Or.inr rfl, rfl⟩
set_option maxRecDepth 100000 in
theorem lk96_49 : xAt kT96 49 (.putfield 48) 52 := ⟨3, rfl, Or.inr rfl, rfl⟩
set_option maxRecDepth 100000 in
theorem lk96_52 : xAt kT96 52 (.aload_n 0) 53 := ⟨1, rfl, Or.inr rfl, rfl⟩
set_option maxRecDepth 100000 in
theorem lk96_53 : xAt kT96 53 (.dup) 54 := ⟨1, rfl, Or.inr rfl, rfl⟩
set_option maxRecDepth 100000 in
theorem lk96_54 : xAt kT96 54 (.getfield 45) 57 := ⟨3, rfl, Or.inr rfl, rfl⟩
set_option maxRecDepth 100000 in
theorem lk96_57 : xAt kT96 57 (.iconst 1) 58 := ⟨1, rfl, Or.inr rfl, rfl⟩
set_option maxRecDepth 100000 in
theorem lk96_58 : xAt kT96 58 (.isub) 59 := ⟨1, rfl, Or.inr rfl, rfl⟩
set_option maxRecDepth 100000 in
theorem lk96_59 : xAt kT96 59 (.putfield 45) 62 := ⟨3, rfl, Or.inr rfl, rfl⟩
set_option maxRecDepth 100000 in
theorem lk96_62 : xAt kT96 62 (.aload_n 0) 63 := ⟨1, rfl, Or.inr rfl, rfl⟩
set_option maxRecDepth 100000 in
theorem lk96_63 : xAt kT96 63 (.getfield 19) 66 := ⟨3, rfl, Or.inr rfl, rfl⟩
set_option maxRecDepth 100000 in
theorem lk96_66 : xAt kT96 66 (.iload_n 3) 67 := ⟨1, rfl, Or.inr rfl, rfl⟩
set_option maxRecDepth 100000 in
theorem lk96_67 : xAt kT96 67 (.iconst 1) 68 := ⟨1, rfl, Or.inr rfl, rfl⟩
set_option maxRecDepth 100000 in
theorem lk96_68 : xAt kT96 68 (.iadd) 69 := ⟨1, rfl, Or.inr rfl, rfl⟩
set_option maxRecDepth 100000 in
theorem lk96_69 : xAt kT96 69 (.aload_n 0) 70 := ⟨1, rfl, Or.inr rfl, rfl⟩
set_option maxRecDepth 100000 in
theorem lk96_70 : xAt kT96 70 (.getfield 19) 73 := ⟨3, rfl, Or.inr rfl, rfl⟩
set_option maxRecDepth 100000 in
theorem lk96_73 : xAt kT96 73 (.iload_n 3) 74 := ⟨1, rfl, Or.inr rfl, rfl⟩
set_option maxRecDepth 100000 in
theorem lk96_74 : xAt kT96 74 (.aload_n 0) 75 := ⟨1, rfl, Or.inr rfl, rfl⟩
set_option maxRecDepth 100000 in
theorem lk96_75 : xAt kT96 75 (.getfield 45) 78 := ⟨3, rfl, Or.inr rfl, rfl⟩
set_option maxRecDepth 100000 in
theorem lk96_78 : xAt kT96 78 (.iload_n 3) 79 := ⟨1, rfl, Or.inr rfl, rfl⟩
set_option maxRecDepth 100000 in
theorem lk96_79 : xAt kT96 79 (.isub) 80 := ⟨1, rfl, Or.inr rfl, rfl⟩
set_option maxRecDepth 100000 in
theorem lk96_80 : xAt kT96 80 (.invokestatic 68) 83 := ⟨3, rfl, Or.inr rfl, rfl⟩
set_option maxRecDepth 100000 in
theorem lk96_83 : xAt kT96 83 (.aload_n 0) 84 := ⟨1, rfl, Or.inr rfl, rfl⟩
set_option maxRecDepth 100000 in
theorem lk96_84 : xAt kT96 84 (.getfield 19) 87 := ⟨3, rfl, Or.inr rfl, rfl⟩
set_option maxRecDepth 100000 in
theorem lk96_87 : xAt kT96 87 (.aload_n 0) 88 := ⟨1, rfl, Or.inr rfl, rfl⟩
set_option maxRecDepth 100000 in
theorem lk96_88 : xAt kT96 88 (.getfield 45) 91 := ⟨3, rfl, Or.inr rfl, rfl⟩
set_option maxRecDepth 100000 in
theorem lk96_91 : xAt kT96 91 (.iload 4) 93 := ⟨2, rfl, Or.inr rfl, rfl⟩
set_option maxRecDepth 100000 in
theorem lk96_93 : xAt kT96 93 (.iastore) 94 := ⟨1, rfl, Or.inr rfl, rfl⟩
set_option maxRecDepth 100000 in
theorem lk96_94 : xAt kT96 94 (.return_) 95 := ⟨1, rfl, Or.inr rfl, rfl⟩
set_option maxRecDepth 100000 in
theorem lk102_0 : xAt kT102 0 (.aload_n 0) 1 := ⟨1, rfl, Or.inr rfl, rfl⟩
set_option maxRecDepth 100000 in
theorem lk102_1 : xAt kT102 1 (.getfield 19) 4 := ⟨3, rfl, Or.inr rfl, rfl⟩
set_option maxRecDepth 100000 in
theorem lk102_4 : xAt kT102 4 (.iload_n 1) 5 := ⟨1, rfl, Or.inr rfl, rfl⟩
set_option maxRecDepth 100000 in
theorem lk102_5 : xAt kT102 5 (.iaload) 6 := ⟨1, rfl, Or.inr rfl, rfl⟩
set_option maxRecDepth 100000 in
theorem lk102_6 : xAt kT102 6 (.istore 4) 8 := ⟨2, rfl, Or.inr rfl, rfl⟩
set_option maxRecDepth 100000 in
theorem lk102_8 : xAt kT102 8 (.aload_n 0) 9 := ⟨1, rfl, Or.inr rfl, rfl⟩
set_option maxRecDepth 100000 in
theorem lk102_9 : xAt kT102 9 (.dup) 10 := ⟨1, rfl, Or.inr rfl, rfl⟩
set_option maxRecDepth 100000 in
theorem lk102_10 : xAt kT102 10 (.getfield 48) 13 := ⟨3, rfl, Or.inr rfl, rfl⟩
set_option maxRecDepth 100000 in
theorem lk102_13 : xAt kT102 13 (.aload_n 0) 14 := ⟨1, rfl, Or.inr rfl, rfl⟩
set_option maxRecDepth 100000 in
theorem lk102_14 : xAt kT102 14 (.iload_n 1) 15 := ⟨1, rfl, Or.inr rfl, rfl⟩
set_option maxRecDepth 100000 in
theorem lk102_15 : xAt kT102 15 (.invokevirtual 124) 18 := ⟨3, rfl, Or.inr rfl, rfl⟩
set_option maxRecDepth 100000 in
theorem lk102_18 : xAt kT102 18 (.isub) 19 := ⟨1, rfl, Or.inr rfl, rfl⟩
set_option maxRecDepth 100000 in
theorem lk102_19 : xAt kT102 19 (.putfield 48) 22 := ⟨3, rfl, Or.inr rfl, rfl⟩
set_option maxRecDepth 100000 in
theorem lk102_22 : xAt kT102 22 (.aload_n 0) 23 := ⟨1, rfl, Or.inr rfl, rfl⟩
set_option maxRecDepth 100000 in
theorem lk102_23 : xAt kT102 23 (.getfield 25) 26 := ⟨3, rfl, Or.inr rfl, rfl⟩
set_option maxRecDepth 100000 in
theorem lk102_26 : xAt kT102 26 (.iload 4) 28 := ⟨2, rfl, Or.inr rfl, rfl⟩
set_option maxRecDepth 100000 in
theorem lk102_28 : xAt kT102 28 (.iload_n 3) 29 := ⟨1, rfl, Or.inr rfl, rfl⟩
set_option maxRecDepth 100000 in
theorem lk102_29 : xAt kT102 29 (.iastore) 30 := ⟨1, rfl, Or.inr rfl, rfl⟩
set_option maxRecDepth 100000 in
theorem lk102_30 : xAt kT102 30 (.aload_n 0) 31 := ⟨1, rfl, Or.inr rfl, rfl⟩
set_option maxRecDepth 100000 in
theorem lk102_31 : xAt kT102 31 (.getfield 37) 34 := ⟨3, rfl, Or.inr rfl, rfl⟩
set_option maxRecDepth 100000 in
theorem lk102_34 : xAt kT102 34 (.getfield 139) 37 := ⟨3, rfl, Or.inr rfl, rfl⟩
set_option maxRecDepth 100000 in
theorem lk102_37 : xAt kT102 37 (.iload_n 2) 38 := ⟨1, rfl, Or.inr rfl, rfl⟩
set_option maxRecDepth 100000 in
theorem lk102_38 : xAt kT102 38 (.aload_n 0) 39 := ⟨1, rfl, Or.inr rfl, rfl⟩
set_option maxRecDepth 100000 in
theorem lk102_39 : xAt kT102 39 (.getfield 28) 42 := ⟨3, rfl, Or.inr rfl, rfl⟩
set_option maxRecDepth 100000 in
theorem lk102_42 : xAt kT102 42 (.iload 4) 44 := ⟨2, rfl, Or.inr rfl, rfl⟩
set_option maxRecDepth 100000 in
theorem lk102_44 : xAt kT102 44 (.sipush 132) 47 := ⟨3, rfl, Or.inr rfl, rfl⟩
set_option maxRecDepth 100000 in
theorem lk102_47 : xAt kT102 47 (.imul) 48 := ⟨1, rfl, Or.inr rfl, rfl⟩
set_option maxRecDepth 100000 in
theorem lk102_48 : xAt kT102 48 (.bipush 32) 50 := ⟨2, rfl, Or.inr rfl, rfl⟩
set_option maxRecDepth 100000 in
theorem lk102_50 : xAt kT102 50 (.iadd) 51 := ⟨1, rfl, Or.inr rfl, rfl⟩
set_option maxRecDepth 100000 in
theorem lk102_51 : xAt kT102 51 (.iload_n 3) 52 := ⟨1, rfl, Or.inr rfl, rfl⟩
set_option maxRecDepth 100000 in
theorem lk102_52 : xAt kT102 52 (.invokestatic 68) 55 := ⟨3, rfl, Or.inr rfl, rfl⟩
set_option maxRecDepth 100000 in
theorem lk102_55 : xAt kT102 55 (.aload_n 0) 56 := ⟨1, rfl, Or.inr rfl, rfl⟩
set_option maxRecDepth 100000 in
theorem lk102_56 : xAt kT102 56 (.dup) 57 := ⟨1, rfl, Or.inr rfl, rfl⟩
set_option maxRecDepth 100000 in
theorem lk102_57 : xAt kT102 57 (.getfield 48) 60 := ⟨3, rfl, Or.inr rfl, rfl⟩
set_option maxRecDepth 100000 in
theorem lk102_60 : xAt kT102 60 (.aload_n 0) 61 := ⟨1, rfl, Or.inr rfl, rfl⟩
set_option maxRecDepth 100000 in
theorem lk102_61 : xAt kT102 61 (.iload_n 1) 62 := ⟨1, rfl, Or.inr rfl, rfl⟩
set_option maxRecDepth 100000 in
theorem lk102_62 : xAt kT102 62 (.invokevirtual 124) 65 := ⟨3, rfl, Or.inr rfl, rfl⟩
set_option maxRecDepth 100000 in
theorem lk102_65 : xAt kT102 65 (.iadd) 66 := ⟨1, rfl, Or.inr rfl, rfl⟩
set_option maxRecDepth 100000 in
theorem lk102_66 : xAt kT102 66 (.putfield 48) 69 := ⟨3, rfl, Or.inr rfl, rfl⟩
set_option maxRecDepth 100000 in
theorem lk102_69 : xAt kT102 69 (.return_) 70 := ⟨1, rfl, Or.inr rfl, rfl⟩
set_option maxRecDepth 100000 in
theorem lk103_0 : xAt kT103 0 (.aload_n 0) 1 := ⟨1, rfl, Or.inr rfl, rfl⟩
set_option maxRecDepth 100000 in
theorem lk103_1 : xAt kT103 1 (.iload_n 1) 2 := ⟨1, rfl, Or.inr rfl, rfl⟩
set_option maxRecDepth 100000 in
theorem lk103_2 : xAt kT103 2 (.iload_n 2) 3 := ⟨1, rfl, Or.inr rfl, rfl⟩
set_option maxRecDepth 100000 in
theorem lk103_3 : xAt kT103 3 (.invokevirtual 101) 6 := ⟨3, rfl, Or.inr rfl, rfl⟩
set_option maxRecDepth 100000 in
theorem lk103_6 : xAt kT103 6 (.istore 5) 8 := ⟨2, rfl, Or.inr rfl, rfl⟩
set_option maxRecDepth 100000 in
theorem lk103_8 : xAt kT103 8 (.aload_n 0) 9 := ⟨1, rfl, Or.inr rfl, rfl⟩
set_option maxRecDepth 100000 in
theorem lk103_9 : xAt kT103 9 (.iload 5) 11 := ⟨2, rfl, Or.inr rfl, rfl⟩
set_option maxRecDepth 100000 in
theorem lk103_11 : xAt kT103 11 (.iload_n 1) 12 := ⟨1, rfl, Or.inr rfl, rfl⟩
set_option maxRecDepth 100000 in
theorem lk103_12 : xAt kT103 12 (.iload_n 2) 13 := ⟨1, rfl, Or.inr rfl, rfl⟩
set_option maxRecDepth 100000 in
theorem lk103_13 : xAt kT103 13 (.invokevirtual 104) 16 := ⟨3, rfl, Or.inr rfl, rfl⟩
set_option maxRecDepth 100000 in
theorem lk103_16 : xAt kT103 16 (.ifCond .ne 12) 19 := ⟨3, rfl, Or.inr rfl, rfl⟩
set_option maxRecDepth 100000 in
theorem lk103_19 : xAt kT103 19 (.aload_n 0) 20 := ⟨1, rfl, Or.inr rfl, rfl⟩
set_option maxRecDepth 100000 in
theorem lk103_20 : xAt kT103 20 (.iconst 3) 21 := ⟨1, rfl, Or.inr rfl, rfl⟩
set_option maxRecDepth 100000 in
theorem lk103_21 : xAt kT103 21 (.iconst (-1)) 22 := ⟨1, rfl, Or.inr rfl, rfl⟩
set_option maxRecDepth 100000 in
theorem lk103_22 : xAt kT103 22 (.invokevirtual 112) 25 := ⟨3, rfl, Or.inr rfl, rfl⟩
set_option maxRecDepth 100000 in
theorem lk103_25 : xAt kT103 25 (.goto 68) 28 := ⟨3, rfl, Or.inr rfl, rfl⟩
set_option maxRecDepth 100000 in
theorem lk103_28 : xAt kT103 28 (.aload_n 0) 29 := ⟨1, rfl, Or.inr rfl, rfl⟩
set_option maxRecDepth 100000 in
theorem lk103_29 : xAt kT103 29 (.iload 5) 31 := ⟨2, rfl, Or.inr rfl, rfl⟩
set_option maxRecDepth 100000 in
theorem lk103_31 : xAt kT103 31 (.iload_n 1) 32 := ⟨1, rfl, Or.inr rfl, rfl⟩
set_option maxRecDepth 100000 in
theorem lk103_32 : xAt kT103 32 (.iload_n 2) 33 := ⟨1, rfl, Or.inr rfl, rfl⟩
set_option maxRecDepth 100000 in
theorem lk103_33 : xAt kT103 33 (.iadd) 34 := ⟨1, rfl, Or.inr rfl, rfl⟩
set_option maxRecDepth 100000 in
theorem lk103_34 : xAt kT103 34 (.iload_n 3) 35 := ⟨1, rfl, Or.inr rfl, rfl⟩
set_option maxRecDepth 100000 in
theorem lk103_35 : xAt kT103 35 (.invokevirtual 121) 38 := ⟨3, rfl, Or.inr rfl, rfl⟩
set_option maxRecDepth 100000 in
theorem lk103_38 : xAt kT103 38 (.ifCond .ne 13) 41 := ⟨3, rfl, Or.inr rfl, rfl⟩
set_option maxRecDepth 100000 in
theorem lk103_41 : xAt kT103 41 (.aload_n 0) 42 := ⟨1, rfl, Or.inr rfl, rfl⟩
set_option maxRecDepth 100000 in
theorem lk103_42 : xAt kT103 42 (.iconst 0) 43 := ⟨1, rfl, Or.inr rfl, rfl⟩
set_option maxRecDepth 100000 in
theorem lk103_43 : xAt kT103 43 (.iload 5) 45 := ⟨2, rfl, Or.inr rfl, rfl⟩
set_option maxRecDepth 100000 in
theorem lk103_45 : xAt kT103 45 (.invokevirtual 112) 48 := ⟨3, rfl, Or.inr rfl, rfl⟩
set_option maxRecDepth 100000 in
theorem lk103_48 : xAt kT103 48 (.goto 45) 51 := ⟨3, rfl, Or.inr rfl, rfl⟩
set_option maxRecDepth 100000 in
theorem lk103_51 : xAt kT103 51 (.aload_n 0) 52 := ⟨1, rfl, Or.inr rfl, rfl⟩
set_option maxRecDepth 100000 in
theorem lk103_52 : xAt kT103 52 (.iload 5) 54 := ⟨2, rfl, Or.inr rfl, rfl⟩
set_option maxRecDepth 100000 in
theorem lk103_54 : xAt kT103 54 (.iconst 1) 55 := ⟨1, rfl, Or.inr rfl, rfl⟩
set_option maxRecDepth 100000 in
theorem lk103_55 : xAt kT103 55 (.iload_n 2) 56 := ⟨1, rfl, Or.inr rfl, rfl⟩
set_option maxRecDepth 100000 in
theorem lk103_56 : xAt kT103 56 (.iload 4) 58 := ⟨2, rfl, Or.inr rfl, rfl⟩
set_option maxRecDepth 100000 in
theorem lk103_58 : xAt kT103 58 (.iadd) 59 := ⟨1, rfl, Or.inr rfl, rfl⟩
set_option maxRecDepth 100000 in
theorem lk103_59 : xAt kT103 59 (.invokevirtual 108) 62 := ⟨3, rfl, Or.inr rfl, rfl⟩
set_option maxRecDepth 100000 in
theorem lk103_62 : xAt kT103 62 (.ifCond .ne 12) 65 := ⟨3, rfl, Or.inr rfl, rfl⟩
set_option maxRecDepth 100000 in
theorem lk103_65 : xAt kT103 65 (.aload_n 0) 66 := ⟨1, rfl, Or.inr rfl, rfl⟩
set_option maxRecDepth 100000 in
theorem lk103_66 : xAt kT103 66 (.iconst 2) 67 := ⟨1, rfl, Or.inr rfl, rfl⟩
set_option maxRecDepth 100000 in
theorem lk103_67 : xAt kT103 67 (.iconst (-1)) 68 := ⟨1, rfl, Or.inr rfl, rfl⟩
set_option maxRecDepth 100000 in
theorem lk103_68 : xAt kT103 68 (.invokevirtual 112) 71 := ⟨3, rfl, Or.inr rfl, rfl⟩
set_option maxRecDepth 100000 in
theorem lk103_71 : xAt kT103 71 (.goto 22) 74 := ⟨3, rfl, Or.inr rfl, rfl⟩
set_option maxRecDepth 100000 in
theorem lk103_74 : xAt kT103 74 (.aload_n 0) 75 := ⟨1, rfl, Or.inr rfl, rfl⟩
set_option maxRecDepth 100000 in
theorem lk103_75 : xAt kT103 75 (.iconst 1) 76 := ⟨1, rfl, Or.inr rfl, rfl⟩
set_option maxRecDepth 100000 in
theorem lk103_76 : xAt kT103 76 (.iconst (-1)) 77 := ⟨1, rfl, Or.inr rfl, rfl⟩
set_option maxRecDepth 100000 in
theorem lk103_77 : xAt kT103 77 (.invokevirtual 112) 80 := ⟨3, rfl, Or.inr rfl, rfl⟩
set_option maxRecDepth 100000 in
theorem lk103_80 : xAt kT103 80 (.aload_n 0) 81 := ⟨1, rfl, Or.inr rfl, rfl⟩
set_option maxRecDepth 100000 in
theorem lk103_81 : xAt kT103 81 (.iload 5) 83 := ⟨2, rfl, Or.inr rfl, rfl⟩
set_option maxRecDepth 100000 in
theorem lk103_83 : xAt kT103 83 (.iload_n 1) 84 := ⟨1, rfl, Or.inr rfl, rfl⟩
set_option maxRecDepth 100000 in
theorem lk103_84 : xAt kT103 84 (.iload_n 2) 85 := ⟨1, rfl, Or.inr rfl, rfl⟩
set_option maxRecDepth 100000 in
theorem lk103_85 : xAt kT103 85 (.iadd) 86 := ⟨1, rfl, Or.inr rfl, rfl⟩
set_option maxRecDepth 100000 in
theorem lk103_86 : xAt kT103 86 (.iload_n 3) 87 := ⟨1, rfl, Or.inr rfl, rfl⟩
set_option maxRecDepth 100000 in
theorem lk103_87 : xAt kT103 87 (.iadd) 88 := ⟨1, rfl, Or.inr rfl, rfl⟩
set_option maxRecDepth 100000 in
theorem lk103_88 : xAt kT103 88 (.iload 4) 90 := ⟨2, rfl, Or.inr rfl, rfl⟩
set_option maxRecDepth 100000 in
theorem lk103_90 : xAt kT103 90 (.invokevirtual 118) 93 := ⟨3, rfl, Or.inr rfl, rfl⟩
set_option maxRecDepth 100000 in
theorem lk103_93 : xAt kT103 93 (.return_) 94 := ⟨1, rfl, Or.inr rfl, rfl⟩
set_option maxRecDepth 100000 in
theorem lk95_0 : xAt kT95 0 (.aload_n 0) 1 := ⟨1, rfl, Or.inr rfl, rfl⟩
set_option maxRecDepth 100000 in
theorem lk95_1 : xAt kT95 1 (.iload_n 1) 2 := ⟨1, rfl, Or.inr rfl, rfl⟩
set_option maxRecDepth 100000 in
theorem lk95_2 : xAt kT95 2 (.iload_n 2) 3 := ⟨1, rfl, Or.inr rfl, rfl⟩
set_option maxRecDepth 100000 in
theorem lk95_3 : xAt kT95 3 (.invokevirtual 101) 6 := ⟨3, rfl, Or.inr rfl, rfl⟩
set_option maxRecDepth 100000 in
theorem lk95_6 : xAt kT95 6 (.istore 4) 8 := ⟨2, rfl, Or.inr rfl, rfl⟩
set_option maxRecDepth 100000 in
theorem lk95_8 : xAt kT95 8 (.aload_n 0) 9 := ⟨1, rfl, Or.inr rfl, rfl⟩
set_option maxRecDepth 100000 in
theorem lk95_9 : xAt kT95 9 (.iload 4) 11 := ⟨2, rfl, Or.inr rfl, rfl⟩
set_option maxRecDepth 100000 in
theorem lk95_11 : xAt kT95 11 (.iload_n 1) 12 := ⟨1, rfl, Or.inr rfl, rfl⟩
set_option maxRecDepth 100000 in
theorem lk95_12 : xAt kT95 12 (.iload_n 2) 13 := ⟨1, rfl, Or.inr rfl, rfl⟩
set_option maxRecDepth 100000 in
theorem lk95_13 : xAt kT95 13 (.invokevirtual 104) 16 := ⟨3, rfl, Or.inr rfl, rfl⟩
set_option maxRecDepth 100000 in
theorem lk95_16 : xAt kT95 16 (.istore 5) 18 := ⟨2, rfl, Or.inr rfl, rfl⟩
set_option maxRecDepth 100000 in
theorem lk95_18 : xAt kT95 18 (.aload_n 0) 19 := ⟨1, rfl, Or.inr rfl, rfl⟩
set_option maxRecDepth 100000 in
theorem lk95_19 : xAt kT95 19 (.iload 4) 21 := ⟨2, rfl, Or.inr rfl, rfl⟩
set_option maxRecDepth 100000 in
theorem lk95_21 : xAt kT95 21 (.iload 5) 23 := ⟨2, rfl, Or.inr rfl, rfl⟩
set_option maxRecDepth 100000 in
theorem lk95_23 : xAt kT95 23 (.iload_n 2) 24 := ⟨1, rfl, Or.inr rfl, rfl⟩
set_option maxRecDepth 100000 in
theorem lk95_24 : xAt kT95 24 (.iload_n 3) 25 := ⟨1, rfl, Or.inr rfl, rfl⟩
set_option maxRecDepth 100000 in
theorem lk95_25 : xAt kT95 25 (.iadd) 26 := ⟨1, rfl, Or.inr rfl, rfl⟩
set_option maxRecDepth 100000 in
theorem lk95_26 : xAt kT95 26 (.invokevirtual 108) 29 := ⟨3, rfl, Or.inr rfl, rfl⟩
set_option maxRecDepth 100000 in
theorem lk95_29 : xAt kT95 29 (.ifCond .ne 10) 32 := ⟨3, rfl, Or.inr rfl, rfl⟩
set_option maxRecDepth 100000 in
theorem lk95_32 : xAt kT95 32 (.aload_n 0) 33 := ⟨1, rfl, Or.inr rfl, rfl⟩
set_option maxRecDepth 100000 in
theorem lk95_33 : xAt kT95 33 (.iconst 2) 34 := ⟨1, rfl, Or.inr rfl, rfl⟩
set_option maxRecDepth 100000 in
theorem lk95_34 : xAt kT95 34 (.iconst (-1)) 35 := ⟨1, rfl, Or.inr rfl, rfl⟩
set_option maxRecDepth 100000 in
theorem lk95_35 : xAt kT95 35 (.invokevirtual 112) 38 := ⟨3, rfl, Or.inr rfl, rfl⟩
set_option maxRecDepth 100000 in
theorem lk95_38 : xAt kT95 38 (.return_) 39 := ⟨1, rfl, Or.inr rfl, rfl⟩
set_option maxRecDepth 100000 in
theorem lk95_39 : xAt kT95 39 (.aload_n 0) 40 := ⟨1, rfl, Or.inr rfl, rfl⟩
set_option maxRecDepth 100000 in
theorem lk95_40 : xAt kT95 40 (.iload 5) 42 := ⟨2, rfl, Or.inr rfl, rfl⟩
set_option maxRecDepth 100000 in
theorem lk95_42 : xAt kT95 42 (.ifCond .eq 7) 45 := ⟨3, rfl, Or.inr rfl, rfl⟩
set_option maxRecDepth 100000 in
theorem lk95_45 : xAt kT95 45 (.iconst 1) 46 := ⟨1, rfl, Or.inr rfl, rfl⟩
set_option maxRecDepth 100000 in
theorem lk95_46 : xAt kT95 46 (.goto 4) 49 := ⟨3, rfl, Or.inr rfl, rfl⟩
set_option maxRecDepth 100000 in
theorem lk95_49 : xAt kT95 49 (.iconst 0) 50 := ⟨1, rfl, Or.inr rfl, rfl⟩
set_option maxRecDepth 100000 in
theorem lk95_50 : xAt kT95 50 (.iload 5) 52 := ⟨2, rfl, Or.inr rfl, rfl⟩
set_option maxRecDepth 100000 in
theorem lk95_52 : xAt kT95 52 (.ifCond .eq 8) 55 := ⟨3, rfl, Or.inr rfl, rfl⟩
set_option maxRecDepth 100000 in
theorem lk95_55 : xAt kT95 55 (.iload 4) 57 := ⟨2, rfl, Or.inr rfl, rfl⟩
set_option maxRecDepth 100000 in
theorem lk95_57 : xAt kT95 57 (.goto 4) 60 := ⟨3, rfl, Or.inr rfl, rfl⟩
set_option maxRecDepth 100000 in
theorem lk95_60 : xAt kT95 60 (.iconst (-1)) 61 := ⟨1, rfl, Or.inr rfl, rfl⟩
set_option maxRecDepth 100000 in
theorem lk95_61 : xAt kT95 61 (.invokevirtual 112) 64 := ⟨3, rfl, Or.inr rfl, rfl⟩
set_option maxRecDepth 100000 in
theorem lk95_64 : xAt kT95 64 (.iload 5) 66 := ⟨2, rfl, Or.inr rfl, rfl⟩
set_option maxRecDepth 100000 in
theorem lk95_66 : xAt kT95 66 (.ifCond .ne 11) 69 := ⟨3, rfl, Or.inr rfl, rfl⟩
set_option maxRecDepth 100000 in
theorem lk95_69 : xAt kT95 69 (.aload_n 0) 70 := ⟨1, rfl, Or.inr rfl, rfl⟩
set_option maxRecDepth 100000 in
theorem lk95_70 : xAt kT95 70 (.iload 4) 72 := ⟨2, rfl, Or.inr rfl, rfl⟩
set_option maxRecDepth 100000 in
theorem lk95_72 : xAt kT95 72 (.iload_n 1) 73 := ⟨1, rfl, Or.inr rfl, rfl⟩
set_option maxRecDepth 100000 in
theorem lk95_73 : xAt kT95 73 (.iload_n 2) 74 := ⟨1, rfl, Or.inr rfl, rfl⟩
set_option maxRecDepth 100000 in
theorem lk95_74 : xAt kT95 74 (.invokevirtual 115) 77 := ⟨3, rfl, Or.inr rfl, rfl⟩
set_option maxRecDepth 100000 in
theorem lk95_77 : xAt kT95 77 (.aload_n 0) 78 := ⟨1, rfl, Or.inr rfl, rfl⟩
set_option maxRecDepth 100000 in
theorem lk95_78 : xAt kT95 78 (.iload 4) 80 := ⟨2, rfl, Or.inr rfl, rfl⟩
set_option maxRecDepth 100000 in
theorem lk95_80 : xAt kT95 80 (.iload_n 1) 81 := ⟨1, rfl, Or.inr rfl, rfl⟩
set_option maxRecDepth 100000 in
theorem lk95_81 : xAt kT95 81 (.iload_n 2) 82 := ⟨1, rfl, Or.inr rfl, rfl⟩
set_option maxRecDepth 100000 in
theorem lk95_82 : xAt kT95 82 (.iadd) 83 := ⟨1, rfl, Or.inr rfl, rfl⟩
set_option maxRecDepth 100000 in
theorem lk95_83 : xAt kT95 83 (.iload_n 3) 84 := ⟨1, rfl, Or.inr rfl, rfl⟩
set_option maxRecDepth 100000 in
theorem lk95_84 : xAt kT95 84 (.invokevirtual 118) 87 := ⟨3, rfl, Or.inr rfl, rfl⟩
set_option maxRecDepth 100000 in
theorem lk95_87 : xAt kT95 87 (.return_) 88 := ⟨1, rfl, Or.inr rfl, rfl⟩
set_option maxRecDepth 100000 in
theorem lk94_0 : xAt kT94 0 (.aload_n 0) 1 := ⟨1, rfl, Or.inr rfl, rfl⟩
set_option maxRecDepth 100000 in
theorem lk94_1 : xAt kT94 1 (.getfield 37) 4 := ⟨3, rfl, Or.inr rfl, rfl⟩
set_option maxRecDepth 100000 in
theorem lk94_4 : xAt kT94 4 (.iload_n 3) 5 := ⟨1, rfl, Or.inr rfl, rfl⟩
set_option maxRecDepth 100000 in
theorem lk94_5 : xAt kT94 5 (.bipush 6) 7 := ⟨2, rfl, Or.inr rfl, rfl⟩
set_option maxRecDepth 100000 in
theorem lk94_7 : xAt kT94 7 (.invokevirtual 76) 10 := ⟨3, rfl, Or.inr rfl, rfl⟩
set_option maxRecDepth 100000 in
theorem lk94_10 : xAt kT94 10 (.istore 4) 12 := ⟨2, rfl, Or.inr rfl, rfl⟩
set_option maxRecDepth 100000 in
theorem lk94_12 : xAt kT94 12 (.aload_n 0) 13 := ⟨1, rfl, Or.inr rfl, rfl⟩
set_option maxRecDepth 100000 in
theorem lk94_13 : xAt kT94 13 (.getfield 37) 16 := ⟨3, rfl, Or.inr rfl, rfl⟩
set_option maxRecDepth 100000 in
theorem lk94_16 : xAt kT94 16 (.iload_n 3) 17 := ⟨1, rfl, Or.inr rfl, rfl⟩
set_option maxRecDepth 100000 in
theorem lk94_17 : xAt kT94 17 (.bipush 7) 19 := ⟨2, rfl, Or.inr rfl, rfl⟩
set_option maxRecDepth 100000 in
theorem lk94_19 : xAt kT94 19 (.invokevirtual 76) 22 := ⟨3, rfl, Or.inr rfl, rfl⟩
set_option maxRecDepth 100000 in
theorem lk94_22 : xAt kT94 22 (.istore 5) 24 := ⟨2, rfl, Or.inr rfl, rfl⟩
set_option maxRecDepth 100000 in
theorem lk94_24 : xAt kT94 24 (.aload_n 0) 25 := ⟨1, rfl, Or.inr rfl, rfl⟩
set_option maxRecDepth 100000 in
theorem lk94_25 : xAt kT94 25 (.getfield 37) 28 := ⟨3, rfl, Or.inr rfl, rfl⟩
set_option maxRecDepth 100000 in
theorem lk94_28 : xAt kT94 28 (.iload_n 3) 29 := ⟨1, rfl, Or.inr rfl, rfl⟩
set_option maxRecDepth 100000 in
theorem lk94_29 : xAt kT94 29 (.bipush 8) 31 := ⟨2, rfl, Or.inr rfl, rfl⟩
set_option maxRecDepth 100000 in
theorem lk94_31 : xAt kT94 31 (.invokevirtual 76) 34 := ⟨3, rfl, Or.inr rfl, rfl⟩
set_option maxRecDepth 100000 in
theorem lk94_34 : xAt kT94 34 (.istore 6) 36 := ⟨2, rfl, Or.inr rfl, rfl⟩
set_option maxRecDepth 100000 in
theorem lk94_36 : xAt kT94 36 (.aload_n 0) 37 := ⟨1, rfl, Or.inr rfl, rfl⟩
set_option maxRecDepth 100000 in
theorem lk94_37 : xAt kT94 37 (.getfield 37) 40 := ⟨3, rfl, Or.inr rfl, rfl⟩
set_option maxRecDepth 100000 in
theorem lk94_40 : xAt kT94 40 (.iload_n 3) 41 := ⟨1, rfl, Or.inr rfl, rfl⟩
set_option maxRecDepth 100000 in
theorem lk94_41 : xAt kT94 41 (.bipush 9) 43 := ⟨2, rfl, Or.inr rfl, rfl⟩
set_option maxRecDepth 100000 in
theorem lk94_43 : xAt kT94 43 (.invokevirtual 76) 46 := ⟨3, rfl, Or.inr rfl, rfl⟩
set_option maxRecDepth 100000 in
theorem lk94_46 : xAt kT94 46 (.iload 5) 48 := ⟨2, rfl, Or.inr rfl, rfl⟩
set_option maxRecDepth 100000 in
theorem lk94_48 : xAt kT94 48 (.isub) 49 := ⟨1, rfl, Or.inr rfl, rfl⟩
set_option maxRecDepth 100000 in
theorem lk94_49 : xAt kT94 49 (.istore 7) 51 := ⟨2, rfl, Or.inr rfl, rfl⟩
set_option maxRecDepth 100000 in
theorem lk94_51 : xAt kT94 51 (.aload_n 0) 52 := ⟨1, rfl, Or.inr rfl, rfl⟩
set_option maxRecDepth 100000 in
theorem lk94_52 : xAt kT94 52 (.getfield 37) 55 := ⟨3, rfl, Or.inr rfl, rfl⟩
set_option maxRecDepth 100000 in
theorem lk94_55 : xAt kT94 55 (.iload_n 3) 56 := ⟨1, rfl, Or.inr rfl, rfl⟩
set_option maxRecDepth 100000 in
theorem lk94_56 : xAt kT94 56 (.iconst 1) 57 := ⟨1, rfl, Or.inr rfl, rfl⟩
set_option maxRecDepth 100000 in
theorem lk94_57 : xAt kT94 57 (.invokevirtual 76) 60 := ⟨3, rfl, Or.inr rfl, rfl⟩
set_option maxRecDepth 100000 in
theorem lk94_60 : xAt kT94 60 (.lookupswitch 59 #[(0, 28), (1, 41)]) 88 := ⟨28, rfl, Or.inl rfl, rfl⟩
set_option maxRecDepth 100000 in
theorem lk94_88 : xAt kT94 88 (.aload_n 0) 89 := ⟨1, rfl, Or.inr rfl, rfl⟩
set_option maxRecDepth 100000 in
theorem lk94_89 : xAt kT94 89 (.iload 4) 91 := ⟨2, rfl, Or.inr rfl, rfl⟩
set_option maxRecDepth 100000 in
theorem lk94_91 : xAt kT94 91 (.iload 5) 93 := ⟨2, rfl, Or.inr rfl, rfl⟩
set_option maxRecDepth 100000 in
theorem lk94_93 : xAt kT94 93 (.iload 7) 95 := ⟨2, rfl, Or.inr rfl, rfl⟩
set_option maxRecDepth 100000 in
theorem lk94_95 : xAt kT94 95 (.invokevirtual 80) 98 := ⟨3, rfl, Or.inr rfl, rfl⟩
set_option maxRecDepth 100000 in
theorem lk94_98 : xAt kT94 98 (.goto 29) 101 := ⟨3, rfl, Or.inr rfl, rfl⟩
set_option maxRecDepth 100000 in
theorem lk94_101 : xAt kT94 101 (.aload_n 0) 102 := ⟨1, rfl, Or.inr rfl, rfl⟩
set_option maxRecDepth 100000 in
theorem lk94_102 : xAt kT94 102 (.iload 4) 104 := ⟨2, rfl, Or.inr rfl, rfl⟩
set_option maxRecDepth 100000 in
theorem lk94_104 : xAt kT94 104 (.iload 5) 106 := ⟨2, rfl, Or.inr rfl, rfl⟩
set_option maxRecDepth 100000 in
theorem lk94_106 : xAt kT94 106 (.iload 6) 108 := ⟨2, rfl, Or.inr rfl, rfl⟩
set_option maxRecDepth 100000 in
theorem lk94_108 : xAt kT94 108 (.iload 7) 110 := ⟨2, rfl, Or.inr rfl, rfl⟩
set_option maxRecDepth 100000 in
theorem lk94_110 : xAt kT94 110 (.iload 6) 112 := ⟨2, rfl, Or.inr rfl, rfl⟩
set_option maxRecDepth 100000 in
theorem lk94_112 : xAt kT94 112 (.isub) 113 := ⟨1, rfl, Or.inr rfl, rfl⟩
set_option maxRecDepth 100000 in
theorem lk94_113 : xAt kT94 113 (.invokevirtual 84) 116 := ⟨3, rfl, Or.inr rfl, rfl⟩
set_option maxRecDepth 100000 in
theorem lk94_116 : xAt kT94 116 (.goto 11) 119 := ⟨3, rfl, Or.inr rfl, rfl⟩
set_option maxRecDepth 100000 in
theorem lk94_119 : xAt kT94 119 (.aload_n 0) 120 := ⟨1, rfl, Or.inr rfl, rfl⟩
set_option maxRecDepth 100000 in
theorem lk94_120 : xAt kT94 120 (.iload 4) 122 := ⟨2, rfl, Or.inr rfl, rfl⟩
set_option maxRecDepth 100000 in
theorem lk94_122 : xAt kT94 122 (.iload 5) 124 := ⟨2, rfl, Or.inr rfl, rfl⟩
set_option maxRecDepth 100000 in
theorem lk94_124 : xAt kT94 124 (.invokevirtual 88) 127 := ⟨3, rfl, Or.inr rfl, rfl⟩
set_option maxRecDepth 100000 in
theorem lk94_127 : xAt kT94 127 (.iload_n 1) 128 := ⟨1, rfl, Or.inr rfl, rfl⟩
set_option maxRecDepth 100000 in
theorem lk94_128 : xAt kT94 128 (.iconst 5) 129 := ⟨1, rfl, Or.inr rfl, rfl⟩
set_option maxRecDepth 100000 in
theorem lk94_129 : xAt kT94 129 (.imul) 130 := ⟨1, rfl, Or.inr rfl, rfl⟩
set_option maxRecDepth 100000 in
theorem lk94_130 : xAt kT94 130 (.istore 8) 132 := ⟨2, rfl, Or.inr rfl, rfl⟩
set_option maxRecDepth 100000 in
theorem lk94_132 : xAt kT94 132 (.aload_n 0) 133 := ⟨1, rfl, Or.inr rfl, rfl⟩
set_option maxRecDepth 100000 in
theorem lk94_133 : xAt kT94 133 (.getfield 11) 136 := ⟨3, rfl, Or.inr rfl, rfl⟩
set_option maxRecDepth 100000 in
theorem lk94_136 : xAt kT94 136 (.iload 8) 138 := ⟨2, rfl, Or.inr rfl, rfl⟩
set_option maxRecDepth 100000 in
theorem lk94_138 : xAt kT94 138 (.iconst 2) 139 := ⟨1, rfl, Or.inr rfl, rfl⟩
set_option maxRecDepth 100000 in
theorem lk94_139 : xAt kT94 139 (.iadd) 140 := ⟨1, rfl, Or.inr rfl, rfl⟩
set_option maxRecDepth 100000 in
theorem lk94_140 : xAt kT94 140 (.iload_n 2) 141 := ⟨1, rfl, Or.inr rfl, rfl⟩
set_option maxRecDepth 100000 in
theorem lk94_141 : xAt kT94 141 (.iastore) 142 := ⟨1, rfl, Or.inr rfl, rfl⟩
set_option maxRecDepth 100000 in
theorem lk94_142 : xAt kT94 142 (.aload_n 0) 143 := ⟨1, rfl, Or.inr rfl, rfl⟩
set_option maxRecDepth 100000 in
theorem lk94_143 : xAt kT94 143 (.getfield 11) 146 := ⟨3, rfl, Or.inr rfl, rfl⟩
set_option maxRecDepth 100000 in
theorem lk94_146 : xAt kT94 146 (.iload 8) 148 := ⟨2, rfl, Or.inr rfl, rfl⟩
set_option maxRecDepth 100000 in
theorem lk94_148 : xAt kT94 148 (.iconst 3) 149 := ⟨1, rfl, Or.inr rfl, rfl⟩
set_option maxRecDepth 100000 in
theorem lk94_149 : xAt kT94 149 (.iadd) 150 := ⟨1, rfl, Or.inr rfl, rfl⟩
set_option maxRecDepth 100000 in
theorem lk94_150 : xAt kT94 150 (.aload_n 0) 151 := ⟨1, rfl, Or.inr rfl, rfl⟩
set_option maxRecDepth 100000 in
theorem lk94_151 : xAt kT94 151 (.getfield 54) 154 := ⟨3, rfl, Or.inr rfl, rfl⟩
set_option maxRecDepth 100000 in
theorem lk94_154 : xAt kT94 154 (.iastore) 155 := ⟨1, rfl, Or.inr rfl, rfl⟩
set_option maxRecDepth 100000 in
theorem lk94_155 : xAt kT94 155 (.aload_n 0) 156 := ⟨1, rfl, Or.inr rfl, rfl⟩
set_option maxRecDepth 100000 in
theorem lk94_156 : xAt kT94 156 (.getfield 11) 159 := ⟨3, rfl, Or.inr rfl, rfl⟩
set_option maxRecDepth 100000 in
theorem lk94_159 : xAt kT94 159 (.iload 8) 161 := ⟨2, rfl, Or.inr rfl, rfl⟩
set_option maxRecDepth 100000 in
theorem lk94_161 : xAt kT94 161 (.iconst 4) 162 := ⟨1, rfl, Or.inr rfl, rfl⟩
set_option maxRecDepth 100000 in
theorem lk94_162 : xAt kT94 162 (.iadd) 163 := ⟨1, rfl, Or.inr rfl, rfl⟩
set_option maxRecDepth 100000 in
theorem lk94_163 : xAt kT94 163 (.aload_n 0) 164 := ⟨1, rfl, Or.inr rfl, rfl⟩
set_option maxRecDepth 100000 in
theorem lk94_164 : xAt kT94 164 (.getfield 57) 167 := ⟨3, rfl, Or.inr rfl, rfl⟩
set_option maxRecDepth 100000 in
theorem lk94_167 : xAt kT94 167 (.iastore) 168 := ⟨1, rfl, Or.inr rfl, rfl⟩
set_option maxRecDepth 100000 in
theorem lk94_168 : xAt kT94 168 (.aload_n 0) 169 := ⟨1, rfl, Or.inr rfl, rfl⟩
set_option maxRecDepth 100000 in
theorem lk94_169 : xAt kT94 169 (.getfield 31) 172 := ⟨3, rfl, Or.inr rfl, rfl⟩
set_option maxRecDepth 100000 in
theorem lk94_172 : xAt kT94 172 (.iconst 0) 173 := ⟨1, rfl, Or.inr rfl, rfl⟩
set_option maxRecDepth 100000 in
theorem lk94_173 : xAt kT94 173 (.aload_n 0) 174 := ⟨1, rfl, Or.inr rfl, rfl⟩
set_option maxRecDepth 100000 in
theorem lk94_174 : xAt kT94 174 (.getfield 15) 177 := ⟨3, rfl, Or.inr rfl, rfl⟩
set_option maxRecDepth 100000 in
theorem lk94_177 : xAt kT94 177 (.iload_n 1) 178 := ⟨1, rfl, Or.inr rfl, rfl⟩
set_option maxRecDepth 100000 in
theorem lk94_178 : xAt kT94 178 (.bipush 101) 180 := ⟨2, rfl, Or.inr rfl, rfl⟩
set_option maxRecDepth 100000 in
theorem lk94_180 : xAt kT94 180 (.imul) 181 := ⟨1, rfl, Or.inr rfl, rfl⟩
set_option maxRecDepth 100000 in
theorem lk94_181 : xAt kT94 181 (.aload_n 0) 182 := ⟨1, rfl, Or.inr rfl, rfl⟩
set_option maxRecDepth 100000 in
theorem lk94_182 : xAt kT94 182 (.getfield 57) 185 := ⟨3, rfl, Or.inr rfl, rfl⟩
set_option maxRecDepth 100000 in
theorem lk94_185 : xAt kT94 185 (.invokestatic 68) 188 := ⟨3, rfl, Or.inr rfl, rfl⟩
set_option maxRecDepth 100000 in
theorem lk94_188 : xAt kT94 188 (.return_) 189 := ⟨1, rfl, Or.inr rfl, rfl⟩
set_option maxRecDepth 100000 in
theorem lk99_0 : xAt kT99 0 (.bipush 8) 2 := ⟨2, rfl, Or.inr rfl, rfl⟩
set_option maxRecDepth 100000 in
theorem lk99_2 : xAt kT99 2 (.istore_n 1) 3 := ⟨1, rfl, Or.inr rfl, rfl⟩
set_option maxRecDepth 100000 in
theorem lk99_3 : xAt kT99 3 (.iconst 0) 4 := ⟨1, rfl, Or.inr rfl, rfl⟩
set_option maxRecDepth 100000 in
theorem lk99_4 : xAt kT99 4 (.istore_n 2) 5 := ⟨1, rfl, Or.inr rfl, rfl⟩
set_option maxRecDepth 100000 in
theorem lk99_5 : xAt kT99 5 (.iload_n 2) 6 := ⟨1, rfl, Or.inr rfl, rfl⟩
set_option maxRecDepth 100000 in
theorem lk99_6 : xAt kT99 6 (.aload_n 0) 7 := ⟨1, rfl, Or.inr rfl, rfl⟩
set_option maxRecDepth 100000 in
theorem lk99_7 : xAt kT99 7 (.getfield 41) 10 := ⟨3, rfl, Or.inr rfl, rfl⟩
set_option maxRecDepth 100000 in
theorem lk99_10 : xAt kT99 10 (.if_icmp .ge 25) 13 := ⟨3, rfl, Or.inr rfl, rfl⟩
set_option maxRecDepth 100000 in
theorem lk99_13 : xAt kT99 13 (.iload_n 1) 14 := ⟨1, rfl, Or.inr rfl, rfl⟩
set_option maxRecDepth 100000 in
theorem lk99_14 : xAt kT99 14 (.bipush 18) 16 := ⟨2, rfl, Or.inr rfl, rfl⟩
set_option maxRecDepth 100000 in
theorem lk99_16 : xAt kT99 16 (.aload_n 0) 17 := ⟨1, rfl, Or.inr rfl, rfl⟩
set_option maxRecDepth 100000 in
theorem lk99_17 : xAt kT99 17 (.getfield 11) 20 := ⟨3, rfl, Or.inr rfl, rfl⟩
set_option maxRecDepth 100000 in
theorem lk99_20 : xAt kT99 20 (.iload_n 2) 21 := ⟨1, rfl, Or.inr rfl, rfl⟩
set_option maxRecDepth 100000 in
theorem lk99_21 : xAt kT99 21 (.iconst 5) 22 := ⟨1, rfl, Or.inr rfl, rfl⟩
set_option maxRecDepth 100000 in
theorem lk99_22 : xAt kT99 22 (.imul) 23 := ⟨1, rfl, Or.inr rfl, rfl⟩
set_option maxRecDepth 100000 in
theorem lk99_23 : xAt kT99 23 (.iconst 4) 24 := ⟨1, rfl, Or.inr rfl, rfl⟩
set_option maxRecDepth 100000 in
theorem lk99_24 : xAt kT99 24 (.iadd) 25 := ⟨1, rfl, Or.inr rfl, rfl⟩
set_option maxRecDepth 100000 in
theorem lk99_25 : xAt kT99 25 (.iaload) 26 := ⟨1, rfl, Or.inr rfl, rfl⟩
set_option maxRecDepth 100000 in
theorem lk99_26 : xAt kT99 26 (.iadd) 27 := ⟨1, rfl, Or.inr rfl, rfl⟩
set_option maxRecDepth 100000 in
theorem lk99_27 : xAt kT99 27 (.iadd) 28 := ⟨1, rfl, Or.inr rfl, rfl⟩
set_option maxRecDepth 100000 in
theorem lk99_28 : xAt kT99 28 (.istore_n 1) 29 := ⟨1, rfl, Or.inr rfl, rfl⟩
set_option maxRecDepth 100000 in
theorem lk99_29 : xAt kT99 29 (.iinc 2 1) 32 := ⟨3, rfl, Or.inr rfl, rfl⟩
set_option maxRecDepth 100000 in
theorem lk99_32 : xAt kT99 32 (.goto (-27)) 35 := ⟨3, rfl, Or.inr rfl, rfl⟩
set_option maxRecDepth 100000 in
theorem lk99_35 : xAt kT99 35 (.iconst 0) 36 := ⟨1, rfl, Or.inr rfl, rfl⟩
set_option maxRecDepth 100000 in
theorem lk99_36 : xAt kT99 36 (.istore_n 2) 37 := ⟨1, rfl, Or.inr rfl, rfl⟩
set_option maxRecDepth 100000 in
theorem lk99_37 : xAt kT99 37 (.iload_n 2) 38 := ⟨1, rfl, Or.inr rfl, rfl⟩
set_option maxRecDepth 100000 in
theorem lk99_38 : xAt kT99 38 (.aload_n 0) 39 := ⟨1, rfl, Or.inr rfl, rfl⟩
set_option maxRecDepth 100000 in
theorem lk99_39 : xAt kT99 39 (.getfield 45) 42 := ⟨3, rfl, Or.inr rfl, rfl⟩
set_option maxRecDepth 100000 in
theorem lk99_42 : xAt kT99 42 (.if_icmp .ge 37) 45 := ⟨3, rfl, Or.inr rfl, rfl⟩
set_option maxRecDepth 100000 in
theorem lk99_45 : xAt kT99 45 (.iload_n 1) 46 := ⟨1, rfl, Or.inr rfl, rfl⟩
set_option maxRecDepth 100000 in
theorem lk99_46 : xAt kT99 46 (.iconst 3) 47 := ⟨1, rfl, Or.inr rfl, rfl⟩
set_option maxRecDepth 100000 in
theorem lk99_47 : xAt kT99 47 (.aload_n 0) 48 := ⟨1, rfl, Or.inr rfl, rfl⟩
set_option maxRecDepth 100000 in
theorem lk99_48 : xAt kT99 48 (.getfield 22) 51 := ⟨3, rfl, Or.inr rfl, rfl⟩
set_option maxRecDepth 100000 in
theorem lk99_51 : xAt kT99 51 (.aload_n 0) 52 := ⟨1, rfl, Or.inr rfl, rfl⟩
set_option maxRecDepth 100000 in
theorem lk99_52 : xAt kT99 52 (.getfield 19) 55 := ⟨3, rfl, Or.inr rfl, rfl⟩
set_option maxRecDepth 100000 in
theorem lk99_55 : xAt kT99 55 (.iload_n 2) 56 := ⟨1, rfl, Or.inr rfl, rfl⟩
set_option maxRecDepth 100000 in
theorem lk99_56 : xAt kT99 56 (.iaload) 57 := ⟨1, rfl, Or.inr rfl, rfl⟩
set_option maxRecDepth 100000 in
theorem lk99_57 : xAt kT99 57 (.iaload) 58 := ⟨1, rfl, Or.inr rfl, rfl⟩
set_option maxRecDepth 100000 in
theorem lk99_58 : xAt kT99 58 (.iadd) 59 := ⟨1, rfl, Or.inr rfl, rfl⟩
set_option maxRecDepth 100000 in
theorem lk99_59 : xAt kT99 59 (.aload_n 0) 60 := ⟨1, rfl, Or.inr rfl, rfl⟩
set_option maxRecDepth 100000 in
theorem lk99_60 : xAt kT99 60 (.getfield 25) 63 := ⟨3, rfl, Or.inr rfl, rfl⟩
set_option maxRecDepth 100000 in
theorem lk99_63 : xAt kT99 63 (.aload_n 0) 64 := ⟨1, rfl, Or.inr rfl, rfl⟩
set_option maxRecDepth 100000 in
theorem lk99_64 : xAt kT99 64 (.getfield 19) 67 := ⟨3, rfl, Or.inr rfl, rfl⟩
set_option maxRecDepth 100000 in
theorem lk99_67 : xAt kT99 67 (.iload_n 2) 68 := ⟨1, rfl, Or.inr rfl, rfl⟩
set_option maxRecDepth 100000 in
theorem lk99_68 : xAt kT99 68 (.iaload) 69 := ⟨1, rfl, Or.inr rfl, rfl⟩
set_option maxRecDepth 100000 in
theorem lk99_69 : xAt kT99 69 (.iaload) 70 := ⟨1, rfl, Or.inr rfl, rfl⟩
set_option maxRecDepth 100000 in
theorem lk99_70 : xAt kT99 70 (.iadd) 71 := ⟨1, rfl, Or.inr rfl, rfl⟩
set_option maxRecDepth 100000 in
theorem lk99_71 : xAt kT99 71 (.iadd) 72 := ⟨1, rfl, Or.inr rfl, rfl⟩
set_option maxRecDepth 100000 in
theorem lk99_72 : xAt kT99 72 (.istore_n 1) 73 := ⟨1, rfl, Or.inr rfl, rfl⟩
set_option maxRecDepth 100000 in
theorem lk99_73 : xAt kT99 73 (.iinc 2 1) 76 := ⟨3, rfl, Or.inr rfl, rfl⟩
set_option maxRecDepth 100000 in
theorem lk99_76 : xAt kT99 76 (.goto (-39)) 79 := ⟨3, rfl, Or.inr rfl, rfl⟩
set_option maxRecDepth 100000 in
theorem lk99_79 : xAt kT99 79 (.iload_n 1) 80 := ⟨1, rfl, Or.inr rfl, rfl⟩
set_option maxRecDepth 100000 in
theorem lk99_80 : xAt kT99 80 (.ireturn) 81 := ⟨1, rfl, Or.inr rfl, rfl⟩
set_option maxRecDepth 100000 in
theorem lk98_0 : xAt kT98 0 (.iconst 0) 1 := ⟨1, rfl, Or.inr rfl, rfl⟩
set_option maxRecDepth 100000 in
theorem lk98_1 : xAt kT98 1 (.istore_n 3) 2 := ⟨1, rfl, Or.inr rfl, rfl⟩
set_option maxRecDepth 100000 in
theorem lk98_2 : xAt kT98 2 (.iload_n 3) 3 := ⟨1, rfl, Or.inr rfl, rfl⟩
set_option maxRecDepth 100000 in
theorem lk98_3 : xAt kT98 3 (.iconst 4) 4 := ⟨1, rfl, Or.inr rfl, rfl⟩
set_option maxRecDepth 100000 in
theorem lk98_4 : xAt kT98 4 (.if_icmp .ge 27) 7 := ⟨3, rfl, Or.inr rfl, rfl⟩
set_option maxRecDepth 100000 in
theorem lk98_7 : xAt kT98 7 (.aload_n 0) 8 := ⟨1, rfl, Or.inr rfl, rfl⟩
set_option maxRecDepth 100000 in
theorem lk98_8 : xAt kT98 8 (.getfield 34) 11 := ⟨3, rfl, Or.inr rfl, rfl⟩
set_option maxRecDepth 100000 in
theorem lk98_11 : xAt kT98 11 (.iload_n 1) 12 := ⟨1, rfl, Or.inr rfl, rfl⟩
set_option maxRecDepth 100000 in
theorem lk98_12 : xAt kT98 12 (.iload_n 3) 13 := ⟨1, rfl, Or.inr rfl, rfl⟩
set_option maxRecDepth 100000 in
theorem lk98_13 : xAt kT98 13 (.iadd) 14 := ⟨1, rfl, Or.inr rfl, rfl⟩
set_option maxRecDepth 100000 in
theorem lk98_14 : xAt kT98 14 (.iload_n 2) 15 := ⟨1, rfl, Or.inr rfl, rfl⟩
set_option maxRecDepth 100000 in
theorem lk98_15 : xAt kT98 15 (.bipush 24) 17 := ⟨2, rfl, Or.inr rfl, rfl⟩
set_option maxRecDepth 100000 in
theorem lk98_17 : xAt kT98 17 (.bipush 8) 19 := ⟨2, rfl, Or.inr rfl, rfl⟩
set_option maxRecDepth 100000 in
theorem lk98_19 : xAt kT98 19 (.iload_n 3) 20 := ⟨1, rfl, Or.inr rfl, rfl⟩
set_option maxRecDepth 100000 in
theorem lk98_20 : xAt kT98 20 (.imul) 21 := ⟨1, rfl, Or.inr rfl, rfl⟩
set_option maxRecDepth 100000 in
theorem lk98_21 : xAt kT98 21 (.isub) 22 := ⟨1, rfl, Or.inr rfl, rfl⟩
set_option maxRecDepth 100000 in
theorem lk98_22 : xAt kT98 22 (.ishr) 23 := ⟨1, rfl, Or.inr rfl, rfl⟩
set_option maxRecDepth 100000 in
theorem lk98_23 : xAt kT98 23 (.i2b) 24 := ⟨1, rfl, Or.inr rfl, rfl⟩
set_option maxRecDepth 100000 in
theorem lk98_24 : xAt kT98 24 (.bastore) 25 := ⟨1, rfl, Or.inr rfl, rfl⟩
set_option maxRecDepth 100000 in
theorem lk98_25 : xAt kT98 25 (.iinc 3 1) 28 := ⟨3, rfl, Or.inr rfl, rfl⟩
set_option maxRecDepth 100000 in
theorem lk98_28 : xAt kT98 28 (.goto (-26)) 31 := ⟨3, rfl, Or.inr rfl, rfl⟩
set_option maxRecDepth 100000 in
theorem lk98_31 : xAt kT98 31 (.iload_n 1) 32 := ⟨1, rfl, Or.inr rfl, rfl⟩
set_option maxRecDepth 100000 in
theorem lk98_32 : xAt kT98 32 (.iconst 4) 33 := ⟨1, rfl, Or.inr rfl, rfl⟩
set_option maxRecDepth 100000 in
theorem lk98_33 : xAt kT98 33 (.iadd) 34 := ⟨1, rfl, Or.inr rfl, rfl⟩
set_option maxRecDepth 100000 in
theorem lk98_34 : xAt kT98 34 (.ireturn) 35 := ⟨1, rfl, Or.inr rfl, rfl⟩
set_option maxRecDepth 100000 in
theorem lk97_0 : xAt kT97 0 (.aload_n 0) 1 := ⟨1, rfl, Or.inr rfl, rfl⟩
set_option maxRecDepth 100000 in
theorem lk97_1 : xAt kT97 1 (.invokevirtual 142) 4 := ⟨3, rfl, Or.inr rfl, rfl⟩
set_option maxRecDepth 100000 in
theorem lk97_4 : xAt kT97 4 (.istore_n 1) 5 := ⟨1, rfl, Or.inr rfl, rfl⟩
set_option maxRecDepth 100000 in
theorem lk97_5 : xAt kT97 5 (.aload_n 0) 6 := ⟨1, rfl, Or.inr rfl, rfl⟩
set_option maxRecDepth 100000 in
theorem lk97_6 : xAt kT97 6 (.getfield 34) 9 := ⟨3, rfl, Or.inr rfl, rfl⟩
set_option maxRecDepth 100000 in
theorem lk97_9 : xAt kT97 9 (.arraylength) 10 := ⟨1, rfl, Or.inr rfl, rfl⟩
set_option maxRecDepth 100000 in
theorem lk97_10 : xAt kT97 10 (.iload_n 1) 11 := ⟨1, rfl, Or.inr rfl, rfl⟩
set_option maxRecDepth 100000 in
theorem lk97_11 : xAt kT97 11 (.if_icmp .ge 14) 14 := ⟨3, rfl, Or.inr rfl, rfl⟩
set_option maxRecDepth 100000 in
theorem lk97_14 : xAt kT97 14 (.aload_n 0) 15 := ⟨1, rfl, Or.inr rfl, rfl⟩
set_option maxRecDepth 100000 in
theorem lk97_15 : xAt kT97 15 (.iload_n 1) 16 := ⟨1, rfl, Or.inr rfl, rfl⟩
set_option maxRecDepth 100000 in
theorem lk97_16 : xAt kT97 16 (.iload_n 1) 17 := ⟨1, rfl, Or.inr rfl, rfl⟩
set_option maxRecDepth 100000 in
theorem lk97_17 : xAt kT97 17 (.iconst 2) 18 := ⟨1, rfl, Or.inr rfl, rfl⟩
set_option maxRecDepth 100000 in
theorem lk97_18 : xAt kT97 18 (.idiv) 19 := ⟨1, rfl, Or.inr rfl, rfl⟩
set_option maxRecDepth 100000 in
theorem lk97_19 : xAt kT97 19 (.iadd) 20 := ⟨1, rfl, Or.inr rfl, rfl⟩
set_option maxRecDepth 100000 in
theorem lk97_20 : xAt kT97 20 (.newarray .byte) 22 := ⟨2, rfl, Or.inr rfl, rfl⟩
set_option maxRecDepth 100000 in
theorem lk97_22 : xAt kT97 22 (.putfield 34) 25 := ⟨3, rfl, Or.inr rfl, rfl⟩
set_option maxRecDepth 100000 in
theorem lk97_25 : xAt kT97 25 (.aload_n 0) 26 := ⟨1, rfl, Or.inr rfl, rfl⟩
set_option maxRecDepth 100000 in
theorem lk97_26 : xAt kT97 26 (.iconst 0) 27 := ⟨1, rfl, Or.inr rfl, rfl⟩
set_option maxRecDepth 100000 in
theorem lk97_27 : xAt kT97 27 (.aload_n 0) 28 := ⟨1, rfl, Or.inr rfl, rfl⟩
set_option maxRecDepth 100000 in
theorem lk97_28 : xAt kT97 28 (.getfield 41) 31 := ⟨3, rfl, Or.inr rfl, rfl⟩
set_option maxRecDepth 100000 in
theorem lk97_31 : xAt kT97 31 (.invokevirtual 146) 34 := ⟨3, rfl, Or.inr rfl, rfl⟩
set_option maxRecDepth 100000 in
theorem lk97_34 : xAt kT97 34 (.istore_n 2) 35 := ⟨1, rfl, Or.inr rfl, rfl⟩
set_option maxRecDepth 100000 in
theorem lk97_35 : xAt kT97 35 (.iconst 0) 36 := ⟨1, rfl, Or.inr rfl, rfl⟩
set_option maxRecDepth 100000 in
theorem lk97_36 : xAt kT97 36 (.istore_n 3) 37 := ⟨1, rfl, Or.inr rfl, rfl⟩
set_option maxRecDepth 100000 in
theorem lk97_37 : xAt kT97 37 (.iload_n 3) 38 := ⟨1, rfl, Or.inr rfl, rfl⟩
set_option maxRecDepth 100000 in
theorem lk97_38 : xAt kT97 38 (.aload_n 0) 39 := ⟨1, rfl, Or.inr rfl, rfl⟩
set_option maxRecDepth 100000 in
theorem lk97_39 : xAt kT97 39 (.getfield 41) 42 := ⟨3, rfl, Or.inr rfl, rfl⟩
set_option maxRecDepth 100000 in
theorem lk97_42 : xAt kT97 42 (.if_icmp .ge 106) 45 := ⟨3, rfl, Or.inr rfl, rfl⟩
set_option maxRecDepth 100000 in
theorem lk97_45 : xAt kT97 45 (.iload_n 3) 46 := ⟨1, rfl, Or.inr rfl, rfl⟩
set_option maxRecDepth 100000 in
theorem lk97_46 : xAt kT97 46 (.iconst 5) 47 := ⟨1, rfl, Or.inr rfl, rfl⟩
set_option maxRecDepth 100000 in
theorem lk97_47 : xAt kT97 47 (.imul) 48 := ⟨1, rfl, Or.inr rfl, rfl⟩
set_option maxRecDepth 100000 in
theorem lk97_48 : xAt kT97 48 (.istore 4) 50 := ⟨2, rfl, Or.inr rfl, rfl⟩
set_option maxRecDepth 100000 in
theorem lk97_50 : xAt kT97 50 (.iconst 0) 51 := ⟨1, rfl, Or.inr rfl, rfl⟩
set_option maxRecDepth 100000 in
theorem lk97_51 : xAt kT97 51 (.istore 5) 53 := ⟨2, rfl, Or.inr rfl, rfl⟩
set_option maxRecDepth 100000 in
theorem lk97_53 : xAt kT97 53 (.iload 5) 55 := ⟨2, rfl, Or.inr rfl, rfl⟩
set_option maxRecDepth 100000 in
theorem lk97_55 : xAt kT97 55 (.iconst 4) 56 := ⟨1, rfl, Or.inr rfl, rfl⟩
set_option maxRecDepth 100000 in
theorem lk97_56 : xAt kT97 56 (.if_icmp .ge 25) 59 := ⟨3, rfl, Or.inr rfl, rfl⟩
set_option maxRecDepth 100000 in
theorem lk97_59 : xAt kT97 59 (.aload_n 0) 60 := ⟨1, rfl, Or.inr rfl, rfl⟩
set_option maxRecDepth 100000 in
theorem lk97_60 : xAt kT97 60 (.iload_n 2) 61 := ⟨1, rfl, Or.inr rfl, rfl⟩
set_option maxRecDepth 100000 in
theorem lk97_61 : xAt kT97 61 (.aload_n 0) 62 := ⟨1, rfl, Or.inr rfl, rfl⟩
set_option maxRecDepth 100000 in
theorem lk97_62 : xAt kT97 62 (.getfield 11) 65 := ⟨3, rfl, Or.inr rfl, rfl⟩
set_option maxRecDepth 100000 in
theorem lk97_65 : xAt kT97 65 (.iload 4) 67 := ⟨2, rfl, Or.inr rfl, rfl⟩
set_option maxRecDepth 100000 in
theorem lk97_67 : xAt kT97 67 (.iload 5) 69 := ⟨2, rfl, Or.inr rfl, rfl⟩
set_option maxRecDepth 100000 in
theorem lk97_69 : xAt kT97 69 (.iadd) 70 := ⟨1, rfl, Or.inr rfl, rfl⟩
set_option maxRecDepth 100000 in
theorem lk97_70 : xAt kT97 70 (.iaload) 71 := ⟨1, rfl, Or.inr rfl, rfl⟩
set_option maxRecDepth 100000 in
theorem lk97_71 : xAt kT97 71 (.invokevirtual 146) 74 := ⟨3, rfl, Or.inr rfl, rfl⟩
set_option maxRecDepth 100000 in
theorem lk97_74 : xAt kT97 74 (.istore_n 2) 75 := ⟨1, rfl, Or.inr rfl, rfl⟩
set_option maxRecDepth 100000 in
theorem lk97_75 : xAt kT97 75 (.iinc 5 1) 78 := ⟨3, rfl, Or.inr rfl, rfl⟩
set_option maxRecDepth 100000 in
theorem lk97_78 : xAt kT97 78 (.goto (-25)) 81 := ⟨3, rfl, Or.inr rfl, rfl⟩
set_option maxRecDepth 100000 in
theorem lk97_81 : xAt kT97 81 (.aload_n 0) 82 := ⟨1, rfl, Or.inr rfl, rfl⟩
set_option maxRecDepth 100000 in
theorem lk97_82 : xAt kT97 82 (.getfield 11) 85 := ⟨3, rfl, Or.inr rfl, rfl⟩
set_option maxRecDepth 100000 in
theorem lk97_85 : xAt kT97 85 (.iload 4) 87 := ⟨2, rfl, Or.inr rfl, rfl⟩
set_option maxRecDepth 100000 in
theorem lk97_87 : xAt kT97 87 (.iconst 4) 88 := ⟨1, rfl, Or.inr rfl, rfl⟩
set_option maxRecDepth 100000 in
theorem lk97_88 : xAt kT97 88 (.iadd) 89 := ⟨1, rfl, Or.inr rfl, rfl⟩
set_option maxRecDepth 100000 in
theorem lk97_89 : xAt kT97 89 (.iaload) 90 := ⟨1, rfl, Or.inr rfl, rfl⟩
set_option maxRecDepth 100000 in
theorem lk97_90 : xAt kT97 90 (.istore 5) 92 := ⟨2, rfl, Or.inr rfl, rfl⟩
set_option maxRecDepth 100000 in
theorem lk97_92 : xAt kT97 92 (.aload_n 0) 93 := ⟨1, rfl, Or.inr rfl, rfl⟩
set_option maxRecDepth 100000 in
theorem lk97_93 : xAt kT97 93 (.getfield 34) 96 := ⟨3, rfl, Or.inr rfl, rfl⟩
set_option maxRecDepth 100000 in
theorem lk97_96 : xAt kT97 96 (.iload_n 2) 97 := ⟨1, rfl, Or.inr rfl, rfl⟩
set_option maxRecDepth 100000 in
theorem lk97_97 : xAt kT97 97 (.iload 5) 99 := ⟨2, rfl, Or.inr rfl, rfl⟩
set_option maxRecDepth 100000 in
theorem lk97_99 : xAt kT97 99 (.bipush 8) 101 := ⟨2, rfl, Or.inr rfl, rfl⟩
set_option maxRecDepth 100000 in
theorem lk97_101 : xAt kT97 101 (.ishr) 102 := ⟨1, rfl, Or.inr rfl, rfl⟩
set_option maxRecDepth 100000 in
theorem lk97_102 : xAt kT97 102 (.i2b) 103 := ⟨1, rfl, Or.inr rfl, rfl⟩
set_option maxRecDepth 100000 in
theorem lk97_103 : xAt kT97 103 (.bastore) 104 := ⟨1, rfl, Or.inr rfl, rfl⟩
set_option maxRecDepth 100000 in
theorem lk97_104 : xAt kT97 104 (.aload_n 0) 105 := ⟨1, rfl, Or.inr rfl, rfl⟩
set_option maxRecDepth 100000 in
theorem lk97_105 : xAt kT97 105 (.getfield 34) 108 := ⟨3, rfl, Or.inr rfl, rfl⟩
set_option maxRecDepth 100000 in
theorem lk97_108 : xAt kT97 108 (.iload_n 2) 109 := ⟨1, rfl, Or.inr rfl, rfl⟩
set_option maxRecDepth 100000 in
theorem lk97_109 : xAt kT97 109 (.iconst 1) 110 := ⟨1, rfl, Or.inr rfl, rfl⟩
set_option maxRecDepth 100000 in
theorem lk97_110 : xAt kT97 110 (.iadd) 111 := ⟨1, rfl, Or.inr rfl, rfl⟩
set_option maxRecDepth 100000 in
theorem lk97_111 : xAt kT97 111 (.iload 5) 113 := ⟨2, rfl, Or.inr rfl, rfl⟩
set_option maxRecDepth 100000 in
theorem lk97_113 : xAt kT97 113 (.i2b) 114 := ⟨1, rfl, Or.inr rfl, rfl⟩
set_option maxRecDepth 100000 in
theorem lk97_114 : xAt kT97 114 (.bastore) 115 := ⟨1, rfl, Or.inr rfl, rfl⟩
set_option maxRecDepth 100000 in
theorem lk97_115 : xAt kT97 115 (.aload_n 0) 116 := ⟨1, rfl, Or.inr rfl, rfl⟩
set_option maxRecDepth 100000 in
theorem lk97_116 : xAt kT97 116 (.getfield 15) 119 := ⟨3, rfl, Or.inr rfl, rfl⟩
set_option maxRecDepth 100000 in
theorem lk97_119 : xAt kT97 119 (.iload_n 3) 120 := ⟨1, rfl, Or.inr rfl, rfl⟩
set_option maxRecDepth 100000 in
theorem lk97_120 : xAt kT97 120 (.bipush 101) 122 := ⟨2, rfl, Or.inr rfl, rfl⟩
set_option maxRecDepth 100000 in
theorem lk97_122 : xAt kT97 122 (.imul) 123 := ⟨1, rfl, Or.inr rfl, rfl⟩
set_option maxRecDepth 100000 in
theorem lk97_123 : xAt kT97 123 (.aload_n 0) 124 := ⟨1, rfl, Or.inr rfl, rfl⟩
set_option maxRecDepth 100000 in
theorem lk97_124 : xAt kT97 124 (.getfield 34) 127 := ⟨3, rfl, Or.inr rfl, rfl⟩
set_option maxRecDepth 100000 in
theorem lk97_127 : xAt kT97 127 (.iload_n 2) 128 := ⟨1, rfl, Or.inr rfl, rfl⟩
set_option maxRecDepth 100000 in
theorem lk97_128 : xAt kT97 128 (.iconst 2) 129 := ⟨1, rfl, Or.inr rfl, rfl⟩
set_option maxRecDepth 100000 in
theorem lk97_129 : xAt kT97 129 (.iadd) 130 := ⟨1, rfl, Or.inr rfl, rfl⟩
set_option maxRecDepth 100000 in
theorem lk97_130 : xAt kT97 130 (.iload 5) 132 := ⟨2, rfl, Or.inr rfl, rfl⟩
set_option maxRecDepth 100000 in
theorem lk97_132 : xAt kT97 132 (.invokestatic 68) 135 := ⟨3, rfl, Or.inr rfl, rfl⟩
set_option maxRecDepth 100000 in
theorem lk97_135 : xAt kT97 135 (.iload_n 2) 136 := ⟨1, rfl, Or.inr rfl, rfl⟩
set_option maxRecDepth 100000 in
theorem lk97_136 : xAt kT97 136 (.iconst 2) 137 := ⟨1, rfl, Or.inr rfl, rfl⟩
set_option maxRecDepth 100000 in
theorem lk97_137 : xAt kT97 137 (.iload 5) 139 := ⟨2, rfl, Or.inr rfl, rfl⟩
set_option maxRecDepth 100000 in
theorem lk97_139 : xAt kT97 139 (.iadd) 140 := ⟨1, rfl, Or.inr rfl, rfl⟩
set_option maxRecDepth 100000 in
theorem lk97_140 : xAt kT97 140 (.iadd) 141 := ⟨1, rfl, Or.inr rfl, rfl⟩
set_option maxRecDepth 100000 in
theorem lk97_141 : xAt kT97 141 (.istore_n 2) 142 := ⟨1, rfl, Or.inr rfl, rfl⟩
set_option maxRecDepth 100000 in
theorem lk97_142 : xAt kT97 142 (.iinc 3 1) 145 := ⟨3, rfl, Or.inr rfl, rfl⟩
set_option maxRecDepth 100000 in
theorem lk97_145 : xAt kT97 145 (.goto (-108)) 148 := ⟨3, rfl, Or.inr rfl, rfl⟩
set_option maxRecDepth 100000 in
theorem lk97_148 : xAt kT97 148 (.aload_n 0) 149 := ⟨1, rfl, Or.inr rfl, rfl⟩
set_option maxRecDepth 100000 in
theorem lk97_149 : xAt kT97 149 (.iload_n 2) 150 := ⟨1, rfl, Or.inr rfl, rfl⟩
set_option maxRecDepth 100000 in
theorem lk97_150 : xAt kT97 150 (.aload_n 0) 151 := ⟨1, rfl, Or.inr rfl, rfl⟩
set_option maxRecDepth 100000 in
theorem lk97_151 : xAt kT97 151 (.getfield 45) 154 := ⟨3, rfl, Or.inr rfl, rfl⟩
set_option maxRecDepth 100000 in
theorem lk97_154 : xAt kT97 154 (.invokevirtual 146) 157 := ⟨3, rfl, Or.inr rfl, rfl⟩
set_option maxRecDepth 100000 in
theorem lk97_157 : xAt kT97 157 (.istore_n 2) 158 := ⟨1, rfl, Or.inr rfl, rfl⟩
set_option maxRecDepth 100000 in
theorem lk97_158 : xAt kT97 158 (.iconst 0) 159 := ⟨1, rfl, Or.inr rfl, rfl⟩
set_option maxRecDepth 100000 in
theorem lk97_159 : xAt kT97 159 (.istore_n 3) 160 := ⟨1, rfl, Or.inr rfl, rfl⟩
set_option maxRecDepth 100000 in
theorem lk97_160 : xAt kT97 160 (.iload_n 3) 161 := ⟨1, rfl, Or.inr rfl, rfl⟩
set_option maxRecDepth 100000 in
theorem lk97_161 : xAt kT97 161 (.aload_n 0) 162 := ⟨1, rfl, Or.inr rfl, rfl⟩
set_option maxRecDepth 100000 in
theorem lk97_162 : xAt kT97 162 (.getfield 45) 165 := ⟨3, rfl, Or.inr rfl, rfl⟩
set_option maxRecDepth 100000 in
theorem lk97_165 : xAt kT97 165 (.if_icmp .ge 143) 168 := ⟨3, rfl, Or.inr rfl, rfl⟩
set_option maxRecDepth 100000 in
theorem lk97_168 : xAt kT97 168 (.aload_n 0) 169 := ⟨1, rfl, Or.inr rfl, rfl⟩
set_option maxRecDepth 100000 in
theorem lk97_169 : xAt kT97 169 (.getfield 19) 172 := ⟨3, rfl, Or.inr rfl, rfl⟩
set_option maxRecDepth 100000 in
theorem lk97_172 : xAt kT97 172 (.iload_n 3) 173 := ⟨1, rfl, Or.inr rfl, rfl⟩
set_option maxRecDepth 100000 in
theorem lk97_173 : xAt kT97 173 (.iaload) 174 := ⟨1, rfl, Or.inr rfl, rfl⟩
set_option maxRecDepth 100000 in
theorem lk97_174 : xAt kT97 174 (.istore 4) 176 := ⟨2, rfl, Or.inr rfl, rfl⟩
set_option maxRecDepth 100000 in
theorem lk97_176 : xAt kT97 176 (.aload_n 0) 177 := ⟨1, rfl, Or.inr rfl, rfl⟩
set_option maxRecDepth 100000 in
theorem lk97_177 : xAt kT97 177 (.getfield 34) 180 := ⟨3, rfl, Or.inr rfl, rfl⟩
set_option maxRecDepth 100000 in
theorem lk97_180 : xAt kT97 180 (.iload_n 2) 181 := ⟨1, rfl, Or.inr rfl, rfl⟩
set_option maxRecDepth 100000 in
theorem lk97_181 : xAt kT97 181 (.aload_n 0) 182 := ⟨1, rfl, Or.inr rfl, rfl⟩
set_option maxRecDepth 100000 in
theorem lk97_182 : xAt kT97 182 (.getfield 22) 185 := ⟨3, rfl, Or.inr rfl, rfl⟩
set_option maxRecDepth 100000 in
theorem lk97_185 : xAt kT97 185 (.iload 4) 187 := ⟨2, rfl, Or.inr rfl, rfl⟩
set_option maxRecDepth 100000 in
theorem lk97_187 : xAt kT97 187 (.iaload) 188 := ⟨1, rfl, Or.inr rfl, rfl⟩
set_option maxRecDepth 100000 in
theorem lk97_188 : xAt kT97 188 (.i2b) 189 := ⟨1, rfl, Or.inr rfl, rfl⟩
set_option maxRecDepth 100000 in
theorem lk97_189 : xAt kT97 189 (.bastore) 190 := ⟨1, rfl, Or.inr rfl, rfl⟩
set_option maxRecDepth 100000 in
theorem lk97_190 : xAt kT97 190 (.aload_n 0) 191 := ⟨1, rfl, Or.inr rfl, rfl⟩
set_option maxRecDepth 100000 in
theorem lk97_191 : xAt kT97 191 (.getfield 34) 194 := ⟨3, rfl, Or.inr rfl, rfl⟩
set_option maxRecDepth 100000 in
theorem lk97_194 : xAt kT97 194 (.iload_n 2) 195 := ⟨1, rfl, Or.inr rfl, rfl⟩
set_option maxRecDepth 100000 in
theorem lk97_195 : xAt kT97 195 (.iconst 1) 196 := ⟨1, rfl, Or.inr rfl, rfl⟩
set_option maxRecDepth 100000 in
theorem lk97_196 : xAt kT97 196 (.iadd) 197 := ⟨1, rfl, Or.inr rfl, rfl⟩
set_option maxRecDepth 100000 in
theorem lk97_197 : xAt kT97 197 (.aload_n 0) 198 := ⟨1, rfl, Or.inr rfl, rfl⟩
set_option maxRecDepth 100000 in
theorem lk97_198 : xAt kT97 198 (.getfield 25) 201 := ⟨3, rfl, Or.inr rfl, rfl⟩
set_option maxRecDepth 100000 in
theorem lk97_201 : xAt kT97 201 (.iload 4) 203 := ⟨2, rfl, Or.inr rfl, rfl⟩
set_option maxRecDepth 100000 in
theorem lk97_203 : xAt kT97 203 (.iaload) 204 := ⟨1, rfl, Or.inr rfl, rfl⟩
set_option maxRecDepth 100000 in
theorem lk97_204 : xAt kT97 204 (.bipush 8) 206 := ⟨2, rfl, Or.inr rfl, rfl⟩
set_option maxRecDepth 100000 in
theorem lk97_206 : xAt kT97 206 (.ishr) 207 := ⟨1, rfl, Or.inr rfl, rfl⟩
set_option maxRecDepth 100000 in
theorem lk97_207 : xAt kT97 207 (.i2b) 208 := ⟨1, rfl, Or.inr rfl, rfl⟩
set_option maxRecDepth 100000 in
theorem lk97_208 : xAt kT97 208 (.bastore) 209 := ⟨1, rfl, Or.inr rfl, rfl⟩
set_option maxRecDepth 100000 in
theorem lk97_209 : xAt kT97 209 (.aload_n 0) 210 := ⟨1, rfl, Or.inr rfl, rfl⟩
set_option maxRecDepth 100000 in
theorem lk97_210 : xAt kT97 210 (.getfield 34) 213 := ⟨3, rfl, Or.inr rfl, rfl⟩
set_option maxRecDepth 100000 in
theorem lk97_213 : xAt kT97 213 (.iload_n 2) 214 := ⟨1, rfl, Or.inr rfl, rfl⟩
set_option maxRecDepth 100000 in
theorem lk97_214 : xAt kT97 214 (.iconst 2) 215 := ⟨1, rfl, Or.inr rfl, rfl⟩
set_option maxRecDepth 100000 in
theorem lk97_215 : xAt kT97 215 (.iadd) 216 := ⟨1, rfl, Or.inr rfl, rfl⟩
set_option maxRecDepth 100000 in
theorem lk97_216 : xAt kT97 216 (.aload_n 0) 217 := ⟨1, rfl, Or.inr rfl, rfl⟩
set_option maxRecDepth 100000 in
theorem lk97_217 : xAt kT97 217 (.getfield 25) 220 := ⟨3, rfl, Or.inr rfl, rfl⟩
set_option maxRecDepth 100000 in
theorem lk97_220 : xAt kT97 220 (.iload 4) 222 := ⟨2, rfl, Or.inr rfl, rfl⟩
set_option maxRecDepth 100000 in
theorem lk97_222 : xAt kT97 222 (.iaload) 223 := ⟨1, rfl, Or.inr rfl, rfl⟩
set_option maxRecDepth 100000 in
theorem lk97_223 : xAt kT97 223 (.i2b) 224 := ⟨1, rfl, Or.inr rfl, rfl⟩
set_option maxRecDepth 100000 in
theorem lk97_224 : xAt kT97 224 (.bastore) 225 := ⟨1, rfl, Or.inr rfl, rfl⟩
set_option maxRecDepth 100000 in
theorem lk97_225 : xAt kT97 225 (.aload_n 0) 226 := ⟨1, rfl, Or.inr rfl, rfl⟩
set_option maxRecDepth 100000 in
theorem lk97_226 : xAt kT97 226 (.getfield 28) 229 := ⟨3, rfl, Or.inr rfl, rfl⟩
set_option maxRecDepth 100000 in
theorem lk97_229 : xAt kT97 229 (.iload 4) 231 := ⟨2, rfl, Or.inr rfl, rfl⟩
set_option maxRecDepth 100000 in
theorem lk97_231 : xAt kT97 231 (.sipush 132) 234 := ⟨3, rfl, Or.inr rfl, rfl⟩
set_option maxRecDepth 100000 in
theorem lk97_234 : xAt kT97 234 (.imul) 235 := ⟨1, rfl, Or.inr rfl, rfl⟩
set_option maxRecDepth 100000 in
theorem lk97_235 : xAt kT97 235 (.aload_n 0) 236 := ⟨1, rfl, Or.inr rfl, rfl⟩
set_option maxRecDepth 100000 in
theorem lk97_236 : xAt kT97 236 (.getfield 34) 239 := ⟨3, rfl, Or.inr rfl, rfl⟩
set_option maxRecDepth 100000 in
theorem lk97_239 : xAt kT97 239 (.iload_n 2) 240 := ⟨1, rfl, Or.inr rfl, rfl⟩
set_option maxRecDepth 100000 in
theorem lk97_240 : xAt kT97 240 (.iconst 3) 241 := ⟨1, rfl, Or.inr rfl, rfl⟩
set_option maxRecDepth 100000 in
theorem lk97_241 : xAt kT97 241 (.iadd) 242 := ⟨1, rfl, Or.inr rfl, rfl⟩
set_option maxRecDepth 100000 in
theorem lk97_242 : xAt kT97 242 (.aload_n 0) 243 := ⟨1, rfl, Or.inr rfl, rfl⟩
set_option maxRecDepth 100000 in
theorem lk97_243 : xAt kT97 243 (.getfield 22) 246 := ⟨3, rfl, Or.inr rfl, rfl⟩
set_option maxRecDepth 100000 in
theorem lk97_246 : xAt kT97 246 (.iload 4) 248 := ⟨2, rfl, Or.inr rfl, rfl⟩
set_option maxRecDepth 100000 in
theorem lk97_248 : xAt kT97 248 (.iaload) 249 := ⟨1, rfl, Or.inr rfl, rfl⟩
set_option maxRecDepth 100000 in
theorem lk97_249 : xAt kT97 249 (.invokestatic 68) 252 := ⟨3, rfl, Or.inr rfl, rfl⟩
set_option maxRecDepth 100000 in
theorem lk97_252 : xAt kT97 252 (.iload_n 2) 253 := ⟨1, rfl, Or.inr rfl, rfl⟩
set_option maxRecDepth 100000 in
theorem lk97_253 : xAt kT97 253 (.iconst 3) 254 := ⟨1, rfl, Or.inr rfl, rfl⟩
set_option maxRecDepth 100000 in
theorem lk97_254 : xAt kT97 254 (.aload_n 0) 255 := ⟨1, rfl, Or.inr rfl, rfl⟩
set_option maxRecDepth 100000 in
theorem lk97_255 : xAt kT97 255 (.getfield 22) 258 := ⟨3, rfl, Or.inr rfl, rfl⟩
set_option maxRecDepth 100000 in
theorem lk97_258 : xAt kT97 258 (.iload 4) 260 := ⟨2, rfl, Or.inr rfl, rfl⟩
set_option maxRecDepth 100000 in
theorem lk97_260 : xAt kT97 260 (.iaload) 261 := ⟨1, rfl, Or.inr rfl, rfl⟩
set_option maxRecDepth 100000 in
theorem lk97_261 : xAt kT97 261 (.iadd) 262 := ⟨1, rfl, Or.inr rfl, rfl⟩
set_option maxRecDepth 100000 in
theorem lk97_262 : xAt kT97 262 (.iadd) 263 := ⟨1, rfl, Or.inr rfl, rfl⟩
set_option maxRecDepth 100000 in
theorem lk97_263 : xAt kT97 263 (.istore_n 2) 264 := ⟨1, rfl, Or.inr rfl, rfl⟩
set_option maxRecDepth 100000 in
theorem lk97_264 : xAt kT97 264 (.aload_n 0) 265 := ⟨1, rfl, Or.inr rfl, rfl⟩
set_option maxRecDepth 100000 in
theorem lk97_265 : xAt kT97 265 (.getfield 28) 268 := ⟨3, rfl, Or.inr rfl, rfl⟩
set_option maxRecDepth 100000 in
theorem lk97_268 : xAt kT97 268 (.iload 4) 270 := ⟨2, rfl, Or.inr rfl, rfl⟩
set_option maxRecDepth 100000 in
theorem lk97_270 : xAt kT97 270 (.sipush 132) 273 := ⟨3, rfl, Or.inr rfl, rfl⟩
set_option maxRecDepth 100000 in
theorem lk97_273 : xAt kT97 273 (.imul) 274 := ⟨1, rfl, Or.inr rfl, rfl⟩
set_option maxRecDepth 100000 in
theorem lk97_274 : xAt kT97 274 (.bipush 32) 276 := ⟨2, rfl, Or.inr rfl, rfl⟩
set_option maxRecDepth 100000 in
theorem lk97_276 : xAt kT97 276 (.iadd) 277 := ⟨1, rfl, Or.inr rfl, rfl⟩
set_option maxRecDepth 100000 in
theorem lk97_277 : xAt kT97 277 (.aload_n 0) 278 := ⟨1, rfl, Or.inr rfl, rfl⟩
set_option maxRecDepth 100000 in
theorem lk97_278 : xAt kT97 278 (.getfield 34) 281 := ⟨3, rfl, Or.inr rfl, rfl⟩
set_option maxRecDepth 100000 in
theorem lk97_281 : xAt kT97 281 (.iload_n 2) 282 := ⟨1, rfl, Or.inr rfl, rfl⟩
set_option maxRecDepth 100000 in
theorem lk97_282 : xAt kT97 282 (.aload_n 0) 283 := ⟨1, rfl, Or.inr rfl, rfl⟩
set_option maxRecDepth 100000 in
theorem lk97_283 : xAt kT97 283 (.getfield 25) 286 := ⟨3, rfl, Or.inr rfl, rfl⟩
set_option maxRecDepth 100000 in
theorem lk97_286 : xAt kT97 286 (.iload 4) 288 := ⟨2, rfl, Or.inr rfl, rfl⟩
set_option maxRecDepth 100000 in
theorem lk97_288 : xAt kT97 288 (.iaload) 289 := ⟨1, rfl, Or.inr rfl, rfl⟩
set_option maxRecDepth 100000 in
theorem lk97_289 : xAt kT97 289 (.invokestatic 68) 292 := ⟨3, rfl, Or.inr rfl, rfl⟩
set_option maxRecDepth 100000 in
theorem lk97_292 : xAt kT97 292 (.iload_n 2) 293 := ⟨1, rfl, Or.inr rfl, rfl⟩
set_option maxRecDepth 100000 in
theorem lk97_293 : xAt kT97 293 (.aload_n 0) 294 := ⟨1, rfl, Or.inr rfl, rfl⟩
set_option maxRecDepth 100000 in
theorem lk97_294 : xAt kT97 294 (.getfield 25) 297 := ⟨3, rfl, Or.inr rfl, rfl⟩
set_option maxRecDepth 100000 in
theorem lk97_297 : xAt kT97 297 (.iload 4) 299 := ⟨2, rfl, Or.inr rfl, rfl⟩
set_option maxRecDepth 100000 in
theorem lk97_299 : xAt kT97 299 (.iaload) 300 := ⟨1, rfl, Or.inr rfl, rfl⟩
set_option maxRecDepth 100000 in
theorem lk97_300 : xAt kT97 300 (.iadd) 301 := ⟨1, rfl, Or.inr rfl, rfl⟩
set_option maxRecDepth 100000 in
theorem lk97_301 : xAt kT97 301 (.istore_n 2) 302 := ⟨1, rfl, Or.inr rfl, rfl⟩
set_option maxRecDepth 100000 in
theorem lk97_302 : xAt kT97 302 (.iinc 3 1) 305 := ⟨3, rfl, Or.inr rfl, rfl⟩
set_option maxRecDepth 100000 in
theorem lk97_305 : xAt kT97 305 (.goto (-145)) 308 := ⟨3, rfl, Or.inr rfl, rfl⟩
set_option maxRecDepth 100000 in
theorem lk97_308 : xAt kT97 308 (.iload_n 1) 309 := ⟨1, rfl, Or.inr rfl, rfl⟩
set_option maxRecDepth 100000 in
theorem lk97_309 : xAt kT97 309 (.ireturn) 310 := ⟨1, rfl, Or.inr rfl, rfl⟩
set_option maxRecDepth 100000 in
theorem lk111_0 : xAt kT111 0 (.aload_n 0) 1 := ⟨1, rfl, Or.inr rfl, rfl⟩
set_option maxRecDepth 100000 in
theorem lk111_1 : xAt kT111 1 (.getfield 18) 4 := ⟨3, rfl, Or.inr rfl, rfl⟩
set_option maxRecDepth 100000 in
theorem lk111_4 : xAt kT111 4 (.arraylength) 5 := ⟨1, rfl, Or.inr rfl, rfl⟩
set_option maxRecDepth 100000 in
theorem lk111_5 : xAt kT111 5 (.iload_n 1) 6 := ⟨1, rfl, Or.inr rfl, rfl⟩
set_option maxRecDepth 100000 in
theorem lk111_6 : xAt kT111 6 (.if_icmp .ge 14) 9 := ⟨3, rfl, Or.inr rfl, rfl⟩
set_option maxRecDepth 100000 in
theorem lk111_9 : xAt kT111 9 (.aload_n 0) 10 := ⟨1, rfl, Or.inr rfl, rfl⟩
set_option maxRecDepth 100000 in
theorem lk111_10 : xAt kT111 10 (.iload_n 1) 11 := ⟨1, rfl, Or.inr rfl, rfl⟩
set_option maxRecDepth 100000 in
theorem lk111_11 : xAt kT111 11 (.iload_n 1) 12 := ⟨1, rfl, Or.inr rfl, rfl⟩
set_option maxRecDepth 100000 in
theorem lk111_12 : xAt kT111 12 (.iconst 2) 13 := ⟨1, rfl, Or.inr rfl, rfl⟩
set_option maxRecDepth 100000 in
theorem lk111_13 : xAt kT111 13 (.idiv) 14 := ⟨1, rfl, Or.inr rfl, rfl⟩
set_option maxRecDepth 100000 in
theorem lk111_14 : xAt kT111 14 (.iadd) 15 := ⟨1, rfl, Or.inr rfl, rfl⟩
set_option maxRecDepth 100000 in
theorem lk111_15 : xAt kT111 15 (.newarray .byte) 17 := ⟨2, rfl, Or.inr rfl, rfl⟩
set_option maxRecDepth 100000 in
theorem lk111_17 : xAt kT111 17 (.putfield 18) 20 := ⟨3, rfl, Or.inr rfl, rfl⟩
set_option maxRecDepth 100000 in
theorem lk111_20 : xAt kT111 20 (.return_) 21 := ⟨1, rfl, Or.inr rfl, rfl⟩
set_option maxRecDepth 100000 in
theorem lk119_0 : xAt kT119 0 (.iload_n 0) 1 := ⟨1, rfl, Or.inr rfl, rfl⟩
set_option maxRecDepth 100000 in
theorem lk119_1 : xAt kT119 1 (.bipush 31) 3 := ⟨2, rfl, Or.inr rfl, rfl⟩
set_option maxRecDepth 100000 in
theorem lk119_3 : xAt kT119 3 (.iand) 4 := ⟨1, rfl, Or.inr rfl, rfl⟩
set_option maxRecDepth 100000 in
theorem lk119_4 : xAt kT119 4 (.ireturn) 5 := ⟨1, rfl, Or.inr rfl, rfl⟩
set_option maxRecDepth 100000 in
theorem lk115_0 : xAt kT115 0 (.aload_n 0) 1 := ⟨1, rfl, Or.inr rfl, rfl⟩
set_option maxRecDepth 100000 in
theorem lk115_1 : xAt kT115 1 (.getfield 34) 4 := ⟨3, rfl, Or.inr rfl, rfl⟩
set_option maxRecDepth 100000 in
theorem lk115_4 : xAt kT115 4 (.invokestatic 38) 7 := ⟨3, rfl, Or.inr rfl, rfl⟩
set_option maxRecDepth 100000 in
theorem lk115_7 : xAt kT115 7 (.istore 5) 9 := ⟨2, rfl, Or.inr rfl, rfl⟩
set_option maxRecDepth 100000 in
theorem lk115_9 : xAt kT115 9 (.aload_n 0) 10 := ⟨1, rfl, Or.inr rfl, rfl⟩
set_option maxRecDepth 100000 in
theorem lk115_10 : xAt kT115 10 (.dup) 11 := ⟨1, rfl, Or.inr rfl, rfl⟩
set_option maxRecDepth 100000 in
theorem lk115_11 : xAt kT115 11 (.getfield 34) 14 := ⟨3, rfl, Or.inr rfl, rfl⟩
set_option maxRecDepth 100000 in
theorem lk115_14 : xAt kT115 14 (.iconst 1) 15 := ⟨1, rfl, Or.inr rfl, rfl⟩
set_option maxRecDepth 100000 in
theorem lk115_15 : xAt kT115 15 (.iadd) 16 := ⟨1, rfl, Or.inr rfl, rfl⟩
set_option maxRecDepth 100000 in
theorem lk115_16 : xAt kT115 16 (.putfield 34) 19 := ⟨3, rfl, Or.inr rfl, rfl⟩
set_option maxRecDepth 100000 in
theorem lk115_19 : xAt kT115 19 (.aload_n 0) 20 := ⟨1, rfl, Or.inr rfl, rfl⟩
set_option maxRecDepth 100000 in
theorem lk115_20 : xAt kT115 20 (.getfield 9) 23 := ⟨3, rfl, Or.inr rfl, rfl⟩
set_option maxRecDepth 100000 in
theorem lk115_23 : xAt kT115 23 (.iload 5) 25 := ⟨2, rfl, Or.inr rfl, rfl⟩
set_option maxRecDepth 100000 in
theorem lk115_25 : xAt kT115 25 (.baload) 26 := ⟨1, rfl, Or.inr rfl, rfl⟩
set_option maxRecDepth 100000 in
theorem lk115_26 : xAt kT115 26 (.ifCond .ne 13) 29 := ⟨3, rfl, Or.inr rfl, rfl⟩
set_option maxRecDepth 100000 in
theorem lk115_29 : xAt kT115 29 (.aload_n 0) 30 := ⟨1, rfl, Or.inr rfl, rfl⟩
set_option maxRecDepth 100000 in
theorem lk115_30 : xAt kT115 30 (.dup) 31 := ⟨1, rfl, Or.inr rfl, rfl⟩
set_option maxRecDepth 100000 in
theorem lk115_31 : xAt kT115 31 (.getfield 42) 34 := ⟨3, rfl, Or.inr rfl, rfl⟩
set_option maxRecDepth 100000 in
theorem lk115_34 : xAt kT115 34 (.iconst 1) 35 := ⟨1, rfl, Or.inr rfl, rfl⟩
set_option maxRecDepth 100000 in
theorem lk115_35 : xAt kT115 35 (.iadd) 36 := ⟨1, rfl, Or.inr rfl, rfl⟩
set_option maxRecDepth 100000 in
theorem lk115_36 : xAt kT115 36 (.putfield 42) 39 := ⟨3, rfl, Or.inr rfl, rfl⟩
set_option maxRecDepth 100000 in
theorem lk115_39 : xAt kT115 39 (.aload_n 0) 40 := ⟨1, rfl, Or.inr rfl, rfl⟩
set_option maxRecDepth 100000 in
theorem lk115_40 : xAt kT115 40 (.getfield 9) 43 := ⟨3, rfl, Or.inr rfl, rfl⟩
set_option maxRecDepth 100000 in
theorem lk115_43 : xAt kT115 43 (.iload 5) 45 := ⟨2, rfl, Or.inr rfl, rfl⟩
set_option maxRecDepth 100000 in
theorem lk115_45 : xAt kT115 45 (.iconst 1) 46 := ⟨1, rfl, Or.inr rfl, rfl⟩
set_option maxRecDepth 100000 in
theorem lk115_46 : xAt kT115 46 (.bastore) 47 := ⟨1, rfl, Or.inr rfl, rfl⟩
set_option maxRecDepth 100000 in
theorem lk115_47 : xAt kT115 47 (.aload_n 0) 48 := ⟨1, rfl, Or.inr rfl, rfl⟩
set_option maxRecDepth 100000 in
theorem lk115_48 : xAt kT115 48 (.getfield 15) 51 := ⟨3, rfl, Or.inr rfl, rfl⟩
set_option maxRecDepth 100000 in
theorem lk115_51 : xAt kT115 51 (.iload 5) 53 := ⟨2, rfl, Or.inr rfl, rfl⟩
set_option maxRecDepth 100000 in
theorem lk115_53 : xAt kT115 53 (.aload_n 1) 54 := ⟨1, rfl, Or.inr rfl, rfl⟩
set_option maxRecDepth 100000 in
theorem lk115_54 : xAt kT115 54 (.getfield 45) 57 := ⟨3, rfl, Or.inr rfl, rfl⟩
set_option maxRecDepth 100000 in
theorem lk115_57 : xAt kT115 57 (.iastore) 58 := ⟨1, rfl, Or.inr rfl, rfl⟩
set_option maxRecDepth 100000 in
theorem lk115_58 : xAt kT115 58 (.aload_n 0) 59 := ⟨1, rfl, Or.inr rfl, rfl⟩
set_option maxRecDepth 100000 in
theorem lk115_59 : xAt kT115 59 (.getfield 19) 62 := ⟨3, rfl, Or.inr rfl, rfl⟩
set_option maxRecDepth 100000 in
theorem lk115_62 : xAt kT115 62 (.iload 5) 64 := ⟨2, rfl, Or.inr rfl, rfl⟩
set_option maxRecDepth 100000 in
theorem lk115_64 : xAt kT115 64 (.aload_n 1) 65 := ⟨1, rfl, Or.inr rfl, rfl⟩
set_option maxRecDepth 100000 in
theorem lk115_65 : xAt kT115 65 (.getfield 50) 68 := ⟨3, rfl, Or.inr rfl, rfl⟩
set_option maxRecDepth 100000 in
theorem lk115_68 : xAt kT115 68 (.iastore) 69 := ⟨1, rfl, Or.inr rfl, rfl⟩
set_option maxRecDepth 100000 in
theorem lk115_69 : xAt kT115 69 (.aload_n 0) 70 := ⟨1, rfl, Or.inr rfl, rfl⟩
set_option maxRecDepth 100000 in
theorem lk115_70 : xAt kT115 70 (.getfield 22) 73 := ⟨3, rfl, Or.inr rfl, rfl⟩
set_option maxRecDepth 100000 in
theorem lk115_73 : xAt kT115 73 (.iload 5) 75 := ⟨2, rfl, Or.inr rfl, rfl⟩
set_option maxRecDepth 100000 in
theorem lk115_75 : xAt kT115 75 (.aload_n 1) 76 := ⟨1, rfl, Or.inr rfl, rfl⟩
set_option maxRecDepth 100000 in
theorem lk115_76 : xAt kT115 76 (.getfield 52) 79 := ⟨3, rfl, Or.inr rfl, rfl⟩
set_option maxRecDepth 100000 in
theorem lk115_79 : xAt kT115 79 (.iastore) 80 := ⟨1, rfl, Or.inr rfl, rfl⟩
set_option maxRecDepth 100000 in
theorem lk115_80 : xAt kT115 80 (.aload_n 0) 81 := ⟨1, rfl, Or.inr rfl, rfl⟩
set_option maxRecDepth 100000 in
theorem lk115_81 : xAt kT115 81 (.getfield 25) 84 := ⟨3, rfl, Or.inr rfl, rfl⟩
set_option maxRecDepth 100000 in
theorem lk115_84 : xAt kT115 84 (.iload 5) 86 := ⟨2, rfl, Or.inr rfl, rfl⟩
set_option maxRecDepth 100000 in
theorem lk115_86 : xAt kT115 86 (.iload_n 2) 87 := ⟨1, rfl, Or.inr rfl, rfl⟩
set_option maxRecDepth 100000 in
theorem lk115_87 : xAt kT115 87 (.iastore) 88 := ⟨1, rfl, Or.inr rfl, rfl⟩
set_option maxRecDepth 100000 in
theorem lk115_88 : xAt kT115 88 (.aload_n 0) 89 := ⟨1, rfl, Or.inr rfl, rfl⟩
set_option maxRecDepth 100000 in
theorem lk115_89 : xAt kT115 89 (.getfield 28) 92 := ⟨3, rfl, Or.inr rfl, rfl⟩
set_option maxRecDepth 100000 in
theorem lk115_92 : xAt kT115 92 (.iload 5) 94 := ⟨2, rfl, Or.inr rfl, rfl⟩
set_option maxRecDepth 100000 in
theorem lk115_94 : xAt kT115 94 (.iload_n 3) 95 := ⟨1, rfl, Or.inr rfl, rfl⟩
set_option maxRecDepth 100000 in
theorem lk115_95 : xAt kT115 95 (.iastore) 96 := ⟨1, rfl, Or.inr rfl, rfl⟩
set_option maxRecDepth 100000 in
theorem lk115_96 : xAt kT115 96 (.aload_n 0) 97 := ⟨1, rfl, Or.inr rfl, rfl⟩
set_option maxRecDepth 100000 in
theorem lk115_97 : xAt kT115 97 (.getfield 31) 100 := ⟨3, rfl, Or.inr rfl, rfl⟩
set_option maxRecDepth 100000 in
theorem lk115_100 : xAt kT115 100 (.iload 5) 102 := ⟨2, rfl, Or.inr rfl, rfl⟩
set_option maxRecDepth 100000 in
theorem lk115_102 : xAt kT115 102 (.iload 4) 104 := ⟨2, rfl, Or.inr rfl, rfl⟩
set_option maxRecDepth 100000 in
theorem lk115_104 : xAt kT115 104 (.iastore) 105 := ⟨1, rfl, Or.inr rfl, rfl⟩
set_option maxRecDepth 100000 in
theorem lk115_105 : xAt kT115 105 (.return_) 106 := ⟨1, rfl, Or.inr rfl, rfl⟩
set_option maxRecDepth 100000 in
theorem lk116_0 : xAt kT116 0 (.aload_n 0) 1 := ⟨1, rfl, Or.inr rfl, rfl⟩
set_option maxRecDepth 100000 in
theorem lk116_1 : xAt kT116 1 (.getfield 9) 4 := ⟨3, rfl, Or.inr rfl, rfl⟩
set_option maxRecDepth 100000 in
theorem lk116_4 : xAt kT116 4 (.iload_n 1) 5 := ⟨1, rfl, Or.inr rfl, rfl⟩
set_option maxRecDepth 100000 in
theorem lk116_5 : xAt kT116 5 (.baload) 6 := ⟨1, rfl, Or.inr rfl, rfl⟩
set_option maxRecDepth 100000 in
theorem lk116_6 : xAt kT116 6 (.ifCond .eq 20) 9 := ⟨3, rfl, Or.inr rfl, rfl⟩
set_option maxRecDepth 100000 in
theorem lk116_9 : xAt kT116 9 (.aload_n 0) 10 := ⟨1, rfl, Or.inr rfl, rfl⟩
set_option maxRecDepth 100000 in
theorem lk116_10 : xAt kT116 10 (.getfield 9) 13 := ⟨3, rfl, Or.inr rfl, rfl⟩
set_option maxRecDepth 100000 in
theorem lk116_13 : xAt kT116 13 (.iload_n 1) 14 := ⟨1, rfl, Or.inr rfl, rfl⟩
set_option maxRecDepth 100000 in
theorem lk116_14 : xAt kT116 14 (.iconst 0) 15 := ⟨1, rfl, Or.inr rfl, rfl⟩
set_option maxRecDepth 100000 in
theorem lk116_15 : xAt kT116 15 (.bastore) 16 := ⟨1, rfl, Or.inr rfl, rfl⟩
set_option maxRecDepth 100000 in
theorem lk116_16 : xAt kT116 16 (.aload_n 0) 17 := ⟨1, rfl, Or.inr rfl, rfl⟩
set_option maxRecDepth 100000 in
theorem lk116_17 : xAt kT116 17 (.dup) 18 := ⟨1, rfl, Or.inr rfl, rfl⟩
set_option maxRecDepth 100000 in
theorem lk116_18 : xAt kT116 18 (.getfield 42) 21 := ⟨3, rfl, Or.inr rfl, rfl⟩
set_option maxRecDepth 100000 in
theorem lk116_21 : xAt kT116 21 (.iconst 1) 22 := ⟨1, rfl, Or.inr rfl, rfl⟩
set_option maxRecDepth 100000 in
theorem lk116_22 : xAt kT116 22 (.isub) 23 := ⟨1, rfl, Or.inr rfl, rfl⟩
set_option maxRecDepth 100000 in
theorem lk116_23 : xAt kT116 23 (.putfield 42) 26 := ⟨3, rfl, Or.inr rfl, rfl⟩
set_option maxRecDepth 100000 in
theorem lk116_26 : xAt kT116 26 (.return_) 27 := ⟨1, rfl, Or.inr rfl, rfl⟩
set_option maxRecDepth 100000 in
theorem lk117_0 : xAt kT117 0 (.iconst 0) 1 := ⟨1, rfl, Or.inr rfl, rfl⟩
set_option maxRecDepth 100000 in
theorem lk117_1 : xAt kT117 1 (.istore_n 1) 2 := ⟨1, rfl, Or.inr rfl, rfl⟩
set_option maxRecDepth 100000 in
theorem lk117_2 : xAt kT117 2 (.iload_n 1) 3 := ⟨1, rfl, Or.inr rfl, rfl⟩
set_option maxRecDepth 100000 in
theorem lk117_3 : xAt kT117 3 (.bipush 32) 5 := ⟨2, rfl, Or.inr rfl, rfl⟩
set_option maxRecDepth 100000 in
theorem lk117_5 : xAt kT117 5 (.if_icmp .ge 16) 8 := ⟨3, rfl, Or.inr rfl, rfl⟩
set_option maxRecDepth 100000 in
theorem lk117_8 : xAt kT117 8 (.aload_n 0) 9 := ⟨1, rfl, Or.inr rfl, rfl⟩
set_option maxRecDepth 100000 in
theorem lk117_9 : xAt kT117 9 (.getfield 9) 12 := ⟨3, rfl, Or.inr rfl, rfl⟩
set_option maxRecDepth 100000 in
theorem lk117_12 : xAt kT117 12 (.iload_n 1) 13 := ⟨1, rfl, Or.inr rfl, rfl⟩
set_option maxRecDepth 100000 in
theorem lk117_13 : xAt kT117 13 (.iconst 0) 14 := ⟨1, rfl, Or.inr rfl, rfl⟩
set_option maxRecDepth 100000 in
theorem lk117_14 : xAt kT117 14 (.bastore) 15 := ⟨1, rfl, Or.inr rfl, rfl⟩
set_option maxRecDepth 100000 in
theorem lk117_15 : xAt kT117 15 (.iinc 1 1) 18 := ⟨3, rfl, Or.inr rfl, rfl⟩
set_option maxRecDepth 100000 in
theorem lk117_18 : xAt kT117 18 (.goto (-16)) 21 := ⟨3, rfl, Or.inr rfl, rfl⟩
set_option maxRecDepth 100000 in
theorem lk117_21 : xAt kT117 21 (.aload_n 0) 22 := ⟨1, rfl, Or.inr rfl, rfl⟩
set_option maxRecDepth 100000 in
theorem lk117_22 : xAt kT117 22 (.iconst 0) 23 := ⟨1, rfl, Or.inr rfl, rfl⟩
set_option maxRecDepth 100000 in
theorem lk117_23 : xAt kT117 23 (.putfield 42) 26 := ⟨3, rfl, Or.inr rfl, rfl⟩
set_option maxRecDepth 100000 in
theorem lk117_26 : xAt kT117 26 (.return_) 27 := ⟨1, rfl, Or.inr rfl, rfl⟩
set_option maxRecDepth 100000 in
theorem lk120_0 : xAt kT120 0 (.iconst 0) 1 := ⟨1, rfl, Or.inr rfl, rfl⟩
set_option maxRecDepth 100000 in
theorem lk120_1 : xAt kT120 1 (.istore_n 2) 2 := ⟨1, rfl, Or.inr rfl, rfl⟩
set_option maxRecDepth 100000 in
theorem lk120_2 : xAt kT120 2 (.aload_n 0) 3 := ⟨1, rfl, Or.inr rfl, rfl⟩
set_option maxRecDepth 100000 in
theorem lk120_3 : xAt kT120 3 (.getfield 42) 6 := ⟨3, rfl, Or.inr rfl, rfl⟩
set_option maxRecDepth 100000 in
theorem lk120_6 : xAt kT120 6 (.ifCond .le 46) 9 := ⟨3, rfl, Or.inr rfl, rfl⟩
set_option maxRecDepth 100000 in
theorem lk120_9 : xAt kT120 9 (.iload_n 2) 10 := ⟨1, rfl, Or.inr rfl, rfl⟩
set_option maxRecDepth 100000 in
theorem lk120_10 : xAt kT120 10 (.bipush 32) 12 := ⟨2, rfl, Or.inr rfl, rfl⟩
set_option maxRecDepth 100000 in
theorem lk120_12 : xAt kT120 12 (.if_icmp .ge 40) 15 := ⟨3, rfl, Or.inr rfl, rfl⟩
set_option maxRecDepth 100000 in
theorem lk120_15 : xAt kT120 15 (.aload_n 0) 16 := ⟨1, rfl, Or.inr rfl, rfl⟩
set_option maxRecDepth 100000 in
theorem lk120_16 : xAt kT120 16 (.getfield 9) 19 := ⟨3, rfl, Or.inr rfl, rfl⟩
set_option maxRecDepth 100000 in
theorem lk120_19 : xAt kT120 19 (.iload_n 2) 20 := ⟨1, rfl, Or.inr rfl, rfl⟩
set_option maxRecDepth 100000 in
theorem lk120_20 : xAt kT120 20 (.baload) 21 := ⟨1, rfl, Or.inr rfl, rfl⟩
set_option maxRecDepth 100000 in
theorem lk120_21 : xAt kT120 21 (.ifCond .eq 25) 24 := ⟨3, rfl, Or.inr rfl, rfl⟩
set_option maxRecDepth 100000 in
theorem lk120_24 : xAt kT120 24 (.aload_n 0) 25 := ⟨1, rfl, Or.inr rfl, rfl⟩
set_option maxRecDepth 100000 in
theorem lk120_25 : xAt kT120 25 (.getfield 31) 28 := ⟨3, rfl, Or.inr rfl, rfl⟩
set_option maxRecDepth 100000 in
theorem lk120_28 : xAt kT120 28 (.iload_n 2) 29 := ⟨1, rfl, Or.inr rfl, rfl⟩
set_option maxRecDepth 100000 in
theorem lk120_29 : xAt kT120 29 (.iaload) 30 := ⟨1, rfl, Or.inr rfl, rfl⟩
set_option maxRecDepth 100000 in
theorem lk120_30 : xAt kT120 30 (.iconst (-1)) 31 := ⟨1, rfl, Or.inr rfl, rfl⟩
set_option maxRecDepth 100000 in
theorem lk120_31 : xAt kT120 31 (.if_icmp .ne 15) 34 := ⟨3, rfl, Or.inr rfl, rfl⟩
set_option maxRecDepth 100000 in
theorem lk120_34 : xAt kT120 34 (.aload_n 0) 35 := ⟨1, rfl, Or.inr rfl, rfl⟩
set_option maxRecDepth 100000 in
theorem lk120_35 : xAt kT120 35 (.getfield 25) 38 := ⟨3, rfl, Or.inr rfl, rfl⟩
set_option maxRecDepth 100000 in
theorem lk120_38 : xAt kT120 38 (.iload_n 2) 39 := ⟨1, rfl, Or.inr rfl, rfl⟩
set_option maxRecDepth 100000 in
theorem lk120_39 : xAt kT120 39 (.iaload) 40 := ⟨1, rfl, Or.inr rfl, rfl⟩
set_option maxRecDepth 100000 in
theorem lk120_40 : xAt kT120 40 (.iload_n 1) 41 := ⟨1, rfl, Or.inr rfl, rfl⟩
set_option maxRecDepth 100000 in
theorem lk120_41 : xAt kT120 41 (.if_icmp .ne 5) 44 := ⟨3, rfl, Or.inr rfl, rfl⟩
set_option maxRecDepth 100000 in
theorem lk120_44 : xAt kT120 44 (.iload_n 2) 45 := ⟨1, rfl, Or.inr rfl, rfl⟩
set_option maxRecDepth 100000 in
theorem lk120_45 : xAt kT120 45 (.ireturn) 46 := ⟨1, rfl, Or.inr rfl, rfl⟩
set_option maxRecDepth 100000 in
theorem lk120_46 : xAt kT120 46 (.iinc 2 1) 49 := ⟨3, rfl, Or.inr rfl, rfl⟩
set_option maxRecDepth 100000 in
theorem lk120_49 : xAt kT120 49 (.goto (-47)) 52 := ⟨3, rfl, Or.inr rfl, rfl⟩
set_option maxRecDepth 100000 in
theorem lk120_52 : xAt kT120 52 (.iconst (-1)) 53 := ⟨1, rfl, Or.inr rfl, rfl⟩
set_option maxRecDepth 100000 in
theorem lk120_53 : xAt kT120 53 (.ireturn) 54 := ⟨1, rfl, Or.inr rfl, rfl⟩
set_option maxRecDepth 100000 in
theorem lk398_0 : xAt kT398 0 (.iload_n 0) 1 := ⟨1, rfl, Or.inr rfl, rfl⟩
set_option maxRecDepth 100000 in
theorem lk398_1 : xAt kT398 1 (.iload_n 0) 2 := ⟨1, rfl, Or.inr rfl, rfl⟩
set_option maxRecDepth 100000 in
theorem lk398_2 : xAt kT398 2 (.iconst 1) 3 := ⟨1, rfl, Or.inr rfl, rfl⟩
set_option maxRecDepth 100000 in
theorem lk398_3 : xAt kT398 3 (.iushr) 4 := ⟨1, rfl, Or.inr rfl, rfl⟩
set_option maxRecDepth 100000 in
theorem lk398_4 : xAt kT398 4 (.ldc_w 265) 7 := ⟨3, rfl, Or.inr rfl, rfl⟩
set_option maxRecDepth 100000 in
theorem lk398_7 : xAt kT398 7 (.iand) 8 := ⟨1, rfl, Or.inr rfl, rfl⟩
set_option maxRecDepth 100000 in
theorem lk398_8 : xAt kT398 8 (.isub) 9 := ⟨1, rfl, Or.inr rfl, rfl⟩
set_option maxRecDepth 100000 in
theorem lk398_9 : xAt kT398 9 (.istore_n 0) 10 := ⟨1, rfl, Or.inr rfl, rfl⟩
set_option maxRecDepth 100000 in
theorem lk398_10 : xAt kT398 10 (.iload_n 0) 11 := ⟨1, rfl, Or.inr rfl, rfl⟩
set_option maxRecDepth 100000 in
theorem lk398_11 : xAt kT398 11 (.ldc_w 266) 14 := ⟨3, rfl, Or.inr rfl, rfl⟩
set_option maxRecDepth 100000 in
theorem lk398_14 : xAt kT398 14 (.iand) 15 := ⟨1, rfl, Or.inr rfl, rfl⟩
set_option maxRecDepth 100000 in
theorem lk398_15 : xAt kT398 15 (.iload_n 0) 16 := ⟨1, rfl, Or.inr rfl, rfl⟩
set_option maxRecDepth 100000 in
theorem lk398_16 : xAt kT398 16 (.iconst 2) 17 := ⟨1, rfl, Or.inr rfl, rfl⟩
set_option maxRecDepth 100000 in
theorem lk398_17 : xAt kT398 17 (.iushr) 18 := ⟨1, rfl, Or.inr rfl, rfl⟩
set_option maxRecDepth 100000 in
theorem lk398_18 : xAt kT398 18 (.ldc_w 266) 21 := ⟨3, rfl, Or.inr rfl, rfl⟩
set_option maxRecDepth 100000 in
theorem lk398_21 : xAt kT398 21 (.iand) 22 := ⟨1, rfl, Or.inr rfl, rfl⟩
set_option maxRecDepth 100000 in
theorem lk398_22 : xAt kT398 22 (.iadd) 23 := ⟨1, rfl, Or.inr rfl, rfl⟩
set_option maxRecDepth 100000 in
theorem lk398_23 : xAt kT398 23 (.istore_n 0) 24 := ⟨1, rfl, Or.inr rfl, rfl⟩
set_option maxRecDepth 100000 in
theorem lk398_24 : xAt kT398 24 (.iload_n 0) 25 := ⟨1, rfl, Or.inr rfl, rfl⟩
set_option maxRecDepth 100000 in
theorem lk398_25 : xAt kT398 25 (.iload_n 0) 26 := ⟨1, rfl, Or.inr rfl, rfl⟩
set_option maxRecDepth 100000 in
theorem lk398_26 : xAt kT398 26 (.iconst 4) 27 := ⟨1, rfl, Or.inr rfl, rfl⟩
set_option maxRecDepth 100000 in
theorem lk398_27 : xAt kT398 27 (.iushr) 28 := ⟨1, rfl, Or.inr rfl, rfl⟩
set_option maxRecDepth 100000 in
theorem lk398_28 : xAt kT398 28 (.iadd) 29 := ⟨1, rfl, Or.inr rfl, rfl⟩
set_option maxRecDepth 100000 in
theorem lk398_29 : xAt kT398 29 (.ldc_w 267) 32 := ⟨3, rfl, Or.inr rfl, rfl⟩
set_option maxRecDepth 100000 in
theorem lk398_32 : xAt kT398 32 (.iand) 33 := ⟨1, rfl, Or.inr rfl, rfl⟩
set_option maxRecDepth 100000 in
theorem lk398_33 : xAt kT398 33 (.istore_n 0) 34 := ⟨1, rfl, Or.inr rfl, rfl⟩
set_option maxRecDepth 100000 in
theorem lk398_34 : xAt kT398 34 (.iload_n 0) 35 := ⟨1, rfl, Or.inr rfl, rfl⟩
set_option maxRecDepth 100000 in
theorem lk398_35 : xAt kT398 35 (.iload_n 0) 36 := ⟨1, rfl, Or.inr rfl, rfl⟩
set_option maxRecDepth 100000 in
theorem lk398_36 : xAt kT398 36 (.bipush 8) 38 := ⟨2, rfl, Or.inr rfl, rfl⟩
set_option maxRecDepth 100000 in
theorem lk398_38 : xAt kT398 38 (.iushr) 39 := ⟨1, rfl, Or.inr rfl, rfl⟩
set_option maxRecDepth 100000 in
theorem lk398_39 : xAt kT398 39 (.iadd) 40 := ⟨1, rfl, Or.inr rfl, rfl⟩
set_option maxRecDepth 100000 in
theorem lk398_40 : xAt kT398 40 (.istore_n 0) 41 := ⟨1, rfl, Or.inr rfl, rfl⟩
set_option maxRecDepth 100000 in
theorem lk398_41 : xAt kT398 41 (.iload_n 0) 42 := ⟨1, rfl, Or.inr rfl, rfl⟩
set_option maxRecDepth 100000 in
theorem lk398_42 : xAt kT398 42 (.iload_n 0) 43 := ⟨1, rfl, Or.inr rfl, rfl⟩
set_option maxRecDepth 100000 in
theorem lk398_43 : xAt kT398 43 (.bipush 16) 45 := ⟨2, rfl, Or.inr rfl, rfl⟩
set_option maxRecDepth 100000 in
theorem lk398_45 : xAt kT398 45 (.iushr) 46 := ⟨1, rfl, Or.inr rfl, rfl⟩
set_option maxRecDepth 100000 in
theorem lk398_46 : xAt kT398 46 (.iadd) 47 := ⟨1, rfl, Or.inr rfl, rfl⟩
set_option maxRecDepth 100000 in
theorem lk398_47 : xAt kT398 47 (.istore_n 0) 48 := ⟨1, rfl, Or.inr rfl, rfl⟩
set_option maxRecDepth 100000 in
theorem lk398_48 : xAt kT398 48 (.iload_n 0) 49 := ⟨1, rfl, Or.inr rfl, rfl⟩
set_option maxRecDepth 100000 in
theorem lk398_49 : xAt kT398 49 (.bipush 63) 51 := ⟨2, rfl, Or.inr rfl, rfl⟩
set_option maxRecDepth 100000 in
theorem lk398_51 : xAt kT398 51 (.iand) 52 := ⟨1, rfl, Or.inr rfl, rfl⟩
set_option maxRecDepth 100000 in
theorem lk398_52 : xAt kT398 52 (.ireturn) 53 := ⟨1, rfl, Or.inr rfl, rfl⟩
set_option maxRecDepth 100000 in
theorem lk56_0 : xAt kT56 0 (.iconst 0) 1 := ⟨1, rfl, Or.inr rfl, rfl⟩
set_option maxRecDepth 100000 in
theorem lk56_1 : xAt kT56 1 (.istore_n 3) 2 := ⟨1, rfl, Or.inr rfl, rfl⟩
set_option maxRecDepth 100000 in
theorem lk56_2 : xAt kT56 2 (.iconst 0) 3 := ⟨1, rfl, Or.inr rfl, rfl⟩
set_option maxRecDepth 100000 in
theorem lk56_3 : xAt kT56 3 (.istore 4) 5 := ⟨2, rfl, Or.inr rfl, rfl⟩
set_option maxRecDepth 100000 in
theorem lk56_5 : xAt kT56 5 (.iload 4) 7 := ⟨2, rfl, Or.inr rfl, rfl⟩
set_option maxRecDepth 100000 in
theorem lk56_7 : xAt kT56 7 (.bipush 7) 9 := ⟨2, rfl, Or.inr rfl, rfl⟩
set_option maxRecDepth 100000 in
theorem lk56_9 : xAt kT56 9 (.if_icmp .ge 29) 12 := ⟨3, rfl, Or.inr rfl, rfl⟩
set_option maxRecDepth 100000 in
theorem lk56_12 : xAt kT56 12 (.iload_n 1) 13 := ⟨1, rfl, Or.inr rfl, rfl⟩
set_option maxRecDepth 100000 in
theorem lk56_13 : xAt kT56 13 (.iload 4) 15 := ⟨2, rfl, Or.inr rfl, rfl⟩
set_option maxRecDepth 100000 in
theorem lk56_15 : xAt kT56 15 (.ishr) 16 := ⟨1, rfl, Or.inr rfl, rfl⟩
set_option maxRecDepth 100000 in
theorem lk56_16 : xAt kT56 16 (.iconst 1) 17 := ⟨1, rfl, Or.inr rfl, rfl⟩
set_option maxRecDepth 100000 in
theorem lk56_17 : xAt kT56 17 (.iand) 18 := ⟨1, rfl, Or.inr rfl, rfl⟩
set_option maxRecDepth 100000 in
theorem lk56_18 : xAt kT56 18 (.ifCond .eq 14) 21 := ⟨3, rfl, Or.inr rfl, rfl⟩
set_option maxRecDepth 100000 in
theorem lk56_21 : xAt kT56 21 (.aload_n 0) 22 := ⟨1, rfl, Or.inr rfl, rfl⟩
set_option maxRecDepth 100000 in
theorem lk56_22 : xAt kT56 22 (.iload 4) 24 := ⟨2, rfl, Or.inr rfl, rfl⟩
set_option maxRecDepth 100000 in
theorem lk56_24 : xAt kT56 24 (.iaload) 25 := ⟨1, rfl, Or.inr rfl, rfl⟩
set_option maxRecDepth 100000 in
theorem lk56_25 : xAt kT56 25 (.iload_n 2) 26 := ⟨1, rfl, Or.inr rfl, rfl⟩
set_option maxRecDepth 100000 in
theorem lk56_26 : xAt kT56 26 (.if_icmp .lt 6) 29 := ⟨3, rfl, Or.inr rfl, rfl⟩
set_option maxRecDepth 100000 in
theorem lk56_29 : xAt kT56 29 (.iinc 3 1) 32 := ⟨3, rfl, Or.inr rfl, rfl⟩
set_option maxRecDepth 100000 in
theorem lk56_32 : xAt kT56 32 (.iinc 4 1) 35 := ⟨3, rfl, Or.inr rfl, rfl⟩
set_option maxRecDepth 100000 in
theorem lk56_35 : xAt kT56 35 (.goto (-30)) 38 := ⟨3, rfl, Or.inr rfl, rfl⟩
set_option maxRecDepth 100000 in
theorem lk56_38 : xAt kT56 38 (.iconst 2) 39 := ⟨1, rfl, Or.inr rfl, rfl⟩
set_option maxRecDepth 100000 in
theorem lk56_39 : xAt kT56 39 (.iload_n 3) 40 := ⟨1, rfl, Or.inr rfl, rfl⟩
set_option maxRecDepth 100000 in
theorem lk56_40 : xAt kT56 40 (.imul) 41 := ⟨1, rfl, Or.inr rfl, rfl⟩
set_option maxRecDepth 100000 in
theorem lk56_41 : xAt kT56 41 (.iload_n 1) 42 := ⟨1, rfl, Or.inr rfl, rfl⟩
set_option maxRecDepth 100000 in
theorem lk56_42 : xAt kT56 42 (.invokestatic 68) 45 := ⟨3, rfl, Or.inr rfl, rfl⟩
set_option maxRecDepth 100000 in
theorem lk56_45 : xAt kT56 45 (.if_icmp .le 7) 48 := ⟨3, rfl, Or.inr rfl, rfl⟩
set_option maxRecDepth 100000 in
theorem lk56_48 : xAt kT56 48 (.iconst 1) 49 := ⟨1, rfl, Or.inr rfl, rfl⟩
set_option maxRecDepth 100000 in
theorem lk56_49 : xAt kT56 49 (.goto 4) 52 := ⟨3, rfl, Or.inr rfl, rfl⟩
set_option maxRecDepth 100000 in
theorem lk56_52 : xAt kT56 52 (.iconst 0) 53 := ⟨1, rfl, Or.inr rfl, rfl⟩
set_option maxRecDepth 100000 in
theorem lk56_53 : xAt kT56 53 (.ireturn) 54 := ⟨1, rfl, Or.inr rfl, rfl⟩
set_option maxRecDepth 100000 in
theorem lk58_0 : xAt kT58 0 (.ldc 63) 2 := ⟨2, rfl, Or.inr rfl, rfl⟩
set_option maxRecDepth 100000 in
theorem lk58_2 : xAt kT58 2 (.istore_n 2) 3 := ⟨1, rfl, Or.inr rfl, rfl⟩
set_option maxRecDepth 100000 in
theorem lk58_3 : xAt kT58 3 (.iconst 0) 4 := ⟨1, rfl, Or.inr rfl, rfl⟩
set_option maxRecDepth 100000 in
theorem lk58_4 : xAt kT58 4 (.istore_n 3) 5 := ⟨1, rfl, Or.inr rfl, rfl⟩
set_option maxRecDepth 100000 in
theorem lk58_5 : xAt kT58 5 (.iload_n 3) 6 := ⟨1, rfl, Or.inr rfl, rfl⟩
set_option maxRecDepth 100000 in
theorem lk58_6 : xAt kT58 6 (.bipush 7) 8 := ⟨2, rfl, Or.inr rfl, rfl⟩
set_option maxRecDepth 100000 in
theorem lk58_8 : xAt kT58 8 (.if_icmp .ge 39) 11 := ⟨3, rfl, Or.inr rfl, rfl⟩
set_option maxRecDepth 100000 in
theorem lk58_11 : xAt kT58 11 (.iload_n 1) 12 := ⟨1, rfl, Or.inr rfl, rfl⟩
set_option maxRecDepth 100000 in
theorem lk58_12 : xAt kT58 12 (.iload_n 3) 13 := ⟨1, rfl, Or.inr rfl, rfl⟩
set_option maxRecDepth 100000 in
theorem lk58_13 : xAt kT58 13 (.ishr) 14 := ⟨1, rfl, Or.inr rfl, rfl⟩
set_option maxRecDepth 100000 in
theorem lk58_14 : xAt kT58 14 (.iconst 1) 15 := ⟨1, rfl, Or.inr rfl, rfl⟩
set_option maxRecDepth 100000 in
theorem lk58_15 : xAt kT58 15 (.iand) 16 := ⟨1, rfl, Or.inr rfl, rfl⟩
set_option maxRecDepth 100000 in
theorem lk58_16 : xAt kT58 16 (.ifCond .eq 25) 19 := ⟨3, rfl, Or.inr rfl, rfl⟩
set_option maxRecDepth 100000 in
theorem lk58_19 : xAt kT58 19 (.aload_n 0) 20 := ⟨1, rfl, Or.inr rfl, rfl⟩
set_option maxRecDepth 100000 in
theorem lk58_20 : xAt kT58 20 (.iload_n 3) 21 := ⟨1, rfl, Or.inr rfl, rfl⟩
set_option maxRecDepth 100000 in
theorem lk58_21 : xAt kT58 21 (.iaload) 22 := ⟨1, rfl, Or.inr rfl, rfl⟩
set_option maxRecDepth 100000 in
theorem lk58_22 : xAt kT58 22 (.iload_n 2) 23 := ⟨1, rfl, Or.inr rfl, rfl⟩
set_option maxRecDepth 100000 in
theorem lk58_23 : xAt kT58 23 (.if_icmp .le 18) 26 := ⟨3, rfl, Or.inr rfl, rfl⟩
set_option maxRecDepth 100000 in
theorem lk58_26 : xAt kT58 26 (.aload_n 0) 27 := ⟨1, rfl, Or.inr rfl, rfl⟩
set_option maxRecDepth 100000 in
theorem lk58_27 : xAt kT58 27 (.iload_n 1) 28 := ⟨1, rfl, Or.inr rfl, rfl⟩
set_option maxRecDepth 100000 in
theorem lk58_28 : xAt kT58 28 (.aload_n 0) 29 := ⟨1, rfl, Or.inr rfl, rfl⟩
set_option maxRecDepth 100000 in
theorem lk58_29 : xAt kT58 29 (.iload_n 3) 30 := ⟨1, rfl, Or.inr rfl, rfl⟩
set_option maxRecDepth 100000 in
theorem lk58_30 : xAt kT58 30 (.iaload) 31 := ⟨1, rfl, Or.inr rfl, rfl⟩
set_option maxRecDepth 100000 in
theorem lk58_31 : xAt kT58 31 (.invokestatic 64) 34 := ⟨3, rfl, Or.inr rfl, rfl⟩
set_option maxRecDepth 100000 in
theorem lk58_34 : xAt kT58 34 (.ifCond .eq 7) 37 := ⟨3, rfl, Or.inr rfl, rfl⟩
set_option maxRecDepth 100000 in
theorem lk58_37 : xAt kT58 37 (.aload_n 0) 38 := ⟨1, rfl, Or.inr rfl, rfl⟩
set_option maxRecDepth 100000 in
theorem lk58_38 : xAt kT58 38 (.iload_n 3) 39 := ⟨1, rfl, Or.inr rfl, rfl⟩
set_option maxRecDepth 100000 in
theorem lk58_39 : xAt kT58 39 (.iaload) 40 := ⟨1, rfl, Or.inr rfl, rfl⟩
set_option maxRecDepth 100000 in
theorem lk58_40 : xAt kT58 40 (.istore_n 2) 41 := ⟨1, rfl, Or.inr rfl, rfl⟩
set_option maxRecDepth 100000 in
theorem lk58_41 : xAt kT58 41 (.iinc 3 1) 44 := ⟨3, rfl, Or.inr rfl, rfl⟩
set_option maxRecDepth 100000 in
theorem lk58_44 : xAt kT58 44 (.goto (-39)) 47 := ⟨3, rfl, Or.inr rfl, rfl⟩
set_option maxRecDepth 100000 in
theorem lk58_47 : xAt kT58 47 (.iload_n 2) 48 := ⟨1, rfl, Or.inr rfl, rfl⟩
set_option maxRecDepth 100000 in
theorem lk58_48 : xAt kT58 48 (.ireturn) 49 := ⟨1, rfl, Or.inr rfl, rfl⟩
set_option maxRecDepth 100000 in
theorem lk57_0 : xAt kT57 0 (.aload_n 0) 1 := ⟨1, rfl, Or.inr rfl, rfl⟩
set_option maxRecDepth 100000 in
theorem lk57_1 : xAt kT57 1 (.iload_n 1) 2 := ⟨1, rfl, Or.inr rfl, rfl⟩
set_option maxRecDepth 100000 in
theorem lk57_2 : xAt kT57 2 (.bipush 127) 4 := ⟨2, rfl, Or.inr rfl, rfl⟩
set_option maxRecDepth 100000 in
theorem lk57_4 : xAt kT57 4 (.iand) 5 := ⟨1, rfl, Or.inr rfl, rfl⟩
set_option maxRecDepth 100000 in
theorem lk57_5 : xAt kT57 5 (.invokestatic 53) 8 := ⟨3, rfl, Or.inr rfl, rfl⟩
set_option maxRecDepth 100000 in
theorem lk57_8 : xAt kT57 8 (.istore_n 2) 9 := ⟨1, rfl, Or.inr rfl, rfl⟩
set_option maxRecDepth 100000 in
theorem lk57_9 : xAt kT57 9 (.iload_n 1) 10 := ⟨1, rfl, Or.inr rfl, rfl⟩
set_option maxRecDepth 100000 in
theorem lk57_10 : xAt kT57 10 (.bipush 7) 12 := ⟨2, rfl, Or.inr rfl, rfl⟩
set_option maxRecDepth 100000 in
theorem lk57_12 : xAt kT57 12 (.ishr) 13 := ⟨1, rfl, Or.inr rfl, rfl⟩
set_option maxRecDepth 100000 in
theorem lk57_13 : xAt kT57 13 (.bipush 127) 15 := ⟨2, rfl, Or.inr rfl, rfl⟩
set_option maxRecDepth 100000 in
theorem lk57_15 : xAt kT57 15 (.iand) 16 := ⟨1, rfl, Or.inr rfl, rfl⟩
set_option maxRecDepth 100000 in
theorem lk57_16 : xAt kT57 16 (.istore_n 3) 17 := ⟨1, rfl, Or.inr rfl, rfl⟩
set_option maxRecDepth 100000 in
theorem lk57_17 : xAt kT57 17 (.iload_n 3) 18 := ⟨1, rfl, Or.inr rfl, rfl⟩
set_option maxRecDepth 100000 in
theorem lk57_18 : xAt kT57 18 (.ifCond .ne 7) 21 := ⟨3, rfl, Or.inr rfl, rfl⟩
set_option maxRecDepth 100000 in
theorem lk57_21 : xAt kT57 21 (.iload_n 2) 22 := ⟨1, rfl, Or.inr rfl, rfl⟩
set_option maxRecDepth 100000 in
theorem lk57_22 : xAt kT57 22 (.goto 12) 25 := ⟨3, rfl, Or.inr rfl, rfl⟩
set_option maxRecDepth 100000 in
theorem lk57_25 : xAt kT57 25 (.iload_n 2) 26 := ⟨1, rfl, Or.inr rfl, rfl⟩
set_option maxRecDepth 100000 in
theorem lk57_26 : xAt kT57 26 (.aload_n 0) 27 := ⟨1, rfl, Or.inr rfl, rfl⟩
set_option maxRecDepth 100000 in
theorem lk57_27 : xAt kT57 27 (.iload_n 3) 28 := ⟨1, rfl, Or.inr rfl, rfl⟩
set_option maxRecDepth 100000 in
theorem lk57_28 : xAt kT57 28 (.invokestatic 53) 31 := ⟨3, rfl, Or.inr rfl, rfl⟩
set_option maxRecDepth 100000 in
theorem lk57_31 : xAt kT57 31 (.invokestatic 57) 34 := ⟨3, rfl, Or.inr rfl, rfl⟩
set_option maxRecDepth 100000 in
theorem lk57_34 : xAt kT57 34 (.ireturn) 35 := ⟨1, rfl, Or.inr rfl, rfl⟩
set_option maxRecDepth 100000 in
theorem lk144_0 : xAt kT144 0 (.aload_n 0) 1 := ⟨1, rfl, Or.inr rfl, rfl⟩
set_option maxRecDepth 100000 in
theorem lk144_1 : xAt kT144 1 (.getfield 63) 4 := ⟨3, rfl, Or.inr rfl, rfl⟩
set_option maxRecDepth 100000 in
theorem lk144_4 : xAt kT144 4 (.invokevirtual 332) 7 := ⟨3, rfl, Or.inr rfl, rfl⟩
set_option maxRecDepth 100000 in
theorem lk144_7 : xAt kT144 7 (.astore_n 3) 8 := ⟨1, rfl, Or.inr rfl, rfl⟩
set_option maxRecDepth 100000 in
theorem lk144_8 : xAt kT144 8 (.aload_n 3) 9 := ⟨1, rfl, Or.inr rfl, rfl⟩
set_option maxRecDepth 100000 in
theorem lk144_9 : xAt kT144 9 (.aload_n 0) 10 := ⟨1, rfl, Or.inr rfl, rfl⟩
set_option maxRecDepth 100000 in
theorem lk144_10 : xAt kT144 10 (.getfield 60) 13 := ⟨3, rfl, Or.inr rfl, rfl⟩
set_option maxRecDepth 100000 in
theorem lk144_13 : xAt kT144 13 (.putfield 181) 16 := ⟨3, rfl, Or.inr rfl, rfl⟩
set_option maxRecDepth 100000 in
theorem lk144_16 : xAt kT144 16 (.aload_n 3) 17 := ⟨1, rfl, Or.inr rfl, rfl⟩
set_option maxRecDepth 100000 in
theorem lk144_17 : xAt kT144 17 (.iload_n 1) 18 := ⟨1, rfl, Or.inr rfl, rfl⟩
set_option maxRecDepth 100000 in
theorem lk144_18 : xAt kT144 18 (.putfield 336) 21 := ⟨3, rfl, Or.inr rfl, rfl⟩
set_option maxRecDepth 100000 in
theorem lk144_21 : xAt kT144 21 (.aload_n 3) 22 := ⟨1, rfl, Or.inr rfl, rfl⟩
set_option maxRecDepth 100000 in
theorem lk144_22 : xAt kT144 22 (.iload_n 2) 23 := ⟨1, rfl, Or.inr rfl, rfl⟩
set_option maxRecDepth 100000 in
theorem lk144_23 : xAt kT144 23 (.putfield 339) 26 := ⟨3, rfl, Or.inr rfl, rfl⟩
set_option maxRecDepth 100000 in
theorem lk144_26 : xAt kT144 26 (.aload_n 3) 27 := ⟨1, rfl, Or.inr rfl, rfl⟩
set_option maxRecDepth 100000 in
theorem lk144_27 : xAt kT144 27 (.aload_n 0) 28 := ⟨1, rfl, Or.inr rfl, rfl⟩
set_option maxRecDepth 100000 in
theorem lk144_28 : xAt kT144 28 (.getfield 88) 31 := ⟨3, rfl, Or.inr rfl, rfl⟩
set_option maxRecDepth 100000 in
theorem lk144_31 : xAt kT144 31 (.putfield 342) 34 := ⟨3, rfl, Or.inr rfl, rfl⟩
set_option maxRecDepth 100000 in
theorem lk144_34 : xAt kT144 34 (.aload_n 3) 35 := ⟨1, rfl, Or.inr rfl, rfl⟩
set_option maxRecDepth 100000 in
theorem lk144_35 : xAt kT144 35 (.iconst 0) 36 := ⟨1, rfl, Or.inr rfl, rfl⟩
set_option maxRecDepth 100000 in
theorem lk144_36 : xAt kT144 36 (.putfield 343) 39 := ⟨3, rfl, Or.inr rfl, rfl⟩
set_option maxRecDepth 100000 in
theorem lk144_39 : xAt kT144 39 (.aload_n 3) 40 := ⟨1, rfl, Or.inr rfl, rfl⟩
set_option maxRecDepth 100000 in
theorem lk144_40 : xAt kT144 40 (.iconst 0) 41 := ⟨1, rfl, Or.inr rfl, rfl⟩
set_option maxRecDepth 100000 in
theorem lk144_41 : xAt kT144 41 (.putfield 346) 44 := ⟨3, rfl, Or.inr rfl, rfl⟩
set_option maxRecDepth 100000 in
theorem lk144_44 : xAt kT144 44 (.aload_n 3) 45 := ⟨1, rfl, Or.inr rfl, rfl⟩
set_option maxRecDepth 100000 in
theorem lk144_45 : xAt kT144 45 (.areturn) 46 := ⟨1, rfl, Or.inr rfl, rfl⟩
set_option maxRecDepth 100000 in
theorem lk60_0 : xAt kT60 0 (.aload_n 0) 1 := ⟨1, rfl, Or.inr rfl, rfl⟩
set_option maxRecDepth 100000 in
theorem lk60_1 : xAt kT60 1 (.iconst 0) 2 := ⟨1, rfl, Or.inr rfl, rfl⟩
set_option maxRecDepth 100000 in
theorem lk60_2 : xAt kT60 2 (.iload_n 3) 3 := ⟨1, rfl, Or.inr rfl, rfl⟩
set_option maxRecDepth 100000 in
theorem lk60_3 : xAt kT60 3 (.aload_n 0) 4 := ⟨1, rfl, Or.inr rfl, rfl⟩
set_option maxRecDepth 100000 in
theorem lk60_4 : xAt kT60 4 (.getfield 15) 7 := ⟨3, rfl, Or.inr rfl, rfl⟩
set_option maxRecDepth 100000 in
theorem lk60_7 : xAt kT60 7 (.arraylength) 8 := ⟨1, rfl, Or.inr rfl, rfl⟩
set_option maxRecDepth 100000 in
theorem lk60_8 : xAt kT60 8 (.invokestatic 74) 11 := ⟨3, rfl, Or.inr rfl, rfl⟩
set_option maxRecDepth 100000 in
theorem lk60_11 : xAt kT60 11 (.aload_n 1) 12 := ⟨1, rfl, Or.inr rfl, rfl⟩
set_option maxRecDepth 100000 in
theorem lk60_12 : xAt kT60 12 (.arraylength) 13 := ⟨1, rfl, Or.inr rfl, rfl⟩
set_option maxRecDepth 100000 in
theorem lk60_13 : xAt kT60 13 (.iload_n 2) 14 := ⟨1, rfl, Or.inr rfl, rfl⟩
set_option maxRecDepth 100000 in
theorem lk60_14 : xAt kT60 14 (.isub) 15 := ⟨1, rfl, Or.inr rfl, rfl⟩
set_option maxRecDepth 100000 in
theorem lk60_15 : xAt kT60 15 (.invokestatic 74) 18 := ⟨3, rfl, Or.inr rfl, rfl⟩
set_option maxRecDepth 100000 in
theorem lk60_18 : xAt kT60 18 (.invokestatic 80) 21 := ⟨3, rfl, Or.inr rfl, rfl⟩
set_option maxRecDepth 100000 in
theorem lk60_21 : xAt kT60 21 (.putfield 65) 24 := ⟨3, rfl, Or.inr rfl, rfl⟩
set_option maxRecDepth 100000 in
theorem lk60_24 : xAt kT60 24 (.aload_n 0) 25 := ⟨1, rfl, Or.inr rfl, rfl⟩
set_option maxRecDepth 100000 in
theorem lk60_25 : xAt kT60 25 (.getfield 65) 28 := ⟨3, rfl, Or.inr rfl, rfl⟩
set_option maxRecDepth 100000 in
theorem lk60_28 : xAt kT60 28 (.ifCond .le 17) 31 := ⟨3, rfl, Or.inr rfl, rfl⟩
set_option maxRecDepth 100000 in
theorem lk60_31 : xAt kT60 31 (.aload_n 1) 32 := ⟨1, rfl, Or.inr rfl, rfl⟩
set_option maxRecDepth 100000 in
theorem lk60_32 : xAt kT60 32 (.iload_n 2) 33 := ⟨1, rfl, Or.inr rfl, rfl⟩
set_option maxRecDepth 100000 in
theorem lk60_33 : xAt kT60 33 (.aload_n 0) 34 := ⟨1, rfl, Or.inr rfl, rfl⟩
set_option maxRecDepth 100000 in
theorem lk60_34 : xAt kT60 34 (.getfield 15) 37 := ⟨3, rfl, Or.inr rfl, rfl⟩
set_option maxRecDepth 100000 in
theorem lk60_37 : xAt kT60 37 (.iconst 0) 38 := ⟨1, rfl, Or.inr rfl, rfl⟩
set_option maxRecDepth 100000 in
theorem lk60_38 : xAt kT60 38 (.aload_n 0) 39 := ⟨1, rfl, Or.inr rfl, rfl⟩
set_option maxRecDepth 100000 in
theorem lk60_39 : xAt kT60 39 (.getfield 65) 42 := ⟨3, rfl, Or.inr rfl, rfl⟩
set_option maxRecDepth 100000 in
theorem lk60_42 : xAt kT60 42 (.invokestatic 68) 45 := ⟨3, rfl, Or.inr rfl, rfl⟩
set_option maxRecDepth 100000 in
theorem lk60_45 : xAt kT60 45 (.return_) 46 := ⟨1, rfl, Or.inr rfl, rfl⟩
set_option maxRecDepth 100000 in
theorem lk132_0 : xAt kT132 0 (.aload_n 0) 1 := ⟨1, rfl, Or.inr rfl, rfl⟩
set_option maxRecDepth 100000 in
theorem lk132_1 : xAt kT132 1 (.getfield 115) 4 := ⟨3, rfl, Or.inr rfl, rfl⟩
set_option maxRecDepth 100000 in
theorem lk132_4 : xAt kT132 4 (.ifCond .ne 14) 7 := ⟨3, rfl, Or.inr rfl, rfl⟩
set_option maxRecDepth 100000 in
theorem lk132_7 : xAt kT132 7 (.aload_n 0) 8 := ⟨1, rfl, Or.inr rfl, rfl⟩
set_option maxRecDepth 100000 in
theorem lk132_8 : xAt kT132 8 (.getfield 63) 11 := ⟨3, rfl, Or.inr rfl, rfl⟩
set_option maxRecDepth 100000 in
theorem lk132_11 : xAt kT132 11 (.aload_n 1) 12 := ⟨1, rfl, Or.inr rfl, rfl⟩
set_option maxRecDepth 100000 in
theorem lk132_12 : xAt kT132 12 (.invokevirtual 347) 15 := ⟨3, rfl, Or.inr rfl, rfl⟩
set_option maxRecDepth 100000 in
theorem lk132_15 : xAt kT132 15 (.goto 39) 18 := ⟨3, rfl, Or.inr rfl, rfl⟩
set_option maxRecDepth 100000 in
theorem lk132_18 : xAt kT132 18 (.aload_n 0) 19 := ⟨1, rfl, Or.inr rfl, rfl⟩
set_option maxRecDepth 100000 in
theorem lk132_19 : xAt kT132 19 (.getfield 35) 22 := ⟨3, rfl, Or.inr rfl, rfl⟩
set_option maxRecDepth 100000 in
theorem lk132_22 : xAt kT132 22 (.invokevirtual 121) 25 := ⟨3, rfl, Or.inr rfl, rfl⟩
set_option maxRecDepth 100000 in
theorem lk132_25 : xAt kT132 25 (.bipush 32) 27 := ⟨2, rfl, Or.inr rfl, rfl⟩
set_option maxRecDepth 100000 in
theorem lk132_27 : xAt kT132 27 (.if_icmp .ge 15) 30 := ⟨3, rfl, Or.inr rfl, rfl⟩
set_option maxRecDepth 100000 in
theorem lk132_30 : xAt kT132 30 (.aload_n 0) 31 := ⟨1, rfl, Or.inr rfl, rfl⟩
set_option maxRecDepth 100000 in
theorem lk132_31 : xAt kT132 31 (.getfield 35) 34 := ⟨3, rfl, Or.inr rfl, rfl⟩
set_option maxRecDepth 100000 in
theorem lk132_34 : xAt kT132 34 (.aload_n 1) 35 := ⟨1, rfl, Or.inr rfl, rfl⟩
set_option maxRecDepth 100000 in
theorem lk132_35 : xAt kT132 35 (.invokevirtual 210) 38 := ⟨3, rfl, Or.inr rfl, rfl⟩
set_option maxRecDepth 100000 in
theorem lk132_38 : xAt kT132 38 (.pop) 39 := ⟨1, rfl, Or.inr rfl, rfl⟩
set_option maxRecDepth 100000 in
theorem lk132_39 : xAt kT132 39 (.goto 15) 42 := ⟨3, rfl, Or.inr rfl, rfl⟩
set_option maxRecDepth 100000 in
theorem lk132_42 : xAt kT132 42 (.aload_n 0) 43 := ⟨1, rfl, Or.inr rfl, rfl⟩
set_option maxRecDepth 100000 in
theorem lk132_43 : xAt kT132 43 (.getfield 63) 46 := ⟨3, rfl, Or.inr rfl, rfl⟩
set_option maxRecDepth 100000 in
theorem lk132_46 : xAt kT132 46 (.getfield 201) 49 := ⟨3, rfl, Or.inr rfl, rfl⟩
set_option maxRecDepth 100000 in
theorem lk132_49 : xAt kT132 49 (.aload_n 1) 50 := ⟨1, rfl, Or.inr rfl, rfl⟩
set_option maxRecDepth 100000 in
theorem lk132_50 : xAt kT132 50 (.invokevirtual 210) 53 := ⟨3, rfl, Or.inr rfl, rfl⟩
set_option maxRecDepth 100000 in
theorem lk132_53 : xAt kT132 53 (.pop) 54 := ⟨1, rfl, Or.inr rfl, rfl⟩
set_option maxRecDepth 100000 in
theorem lk132_54 : xAt kT132 54 (.return_) 55 := ⟨1, rfl, Or.inr rfl, rfl⟩
set_option maxRecDepth 100000 in
theorem lk155_0 : xAt kT155 0 (.aload_n 0) 1 := ⟨1, rfl, Or.inr rfl, rfl⟩
set_option maxRecDepth 100000 in
theorem lk155_1 : xAt kT155 1 (.iload_n 1) 2 := ⟨1, rfl, Or.inr rfl, rfl⟩
set_option maxRecDepth 100000 in
theorem lk155_2 : xAt kT155 2 (.bipush 11) 4 := ⟨2, rfl, Or.inr rfl, rfl⟩
set_option maxRecDepth 100000 in
theorem lk155_4 : xAt kT155 4 (.invokevirtual 351) 7 := ⟨3, rfl, Or.inr rfl, rfl⟩
set_option maxRecDepth 100000 in
theorem lk155_7 : xAt kT155 7 (.astore 6) 9 := ⟨2, rfl, Or.inr rfl, rfl⟩
set_option maxRecDepth 100000 in
theorem lk155_9 : xAt kT155 9 (.aload 6) 11 := ⟨2, rfl, Or.inr rfl, rfl⟩
set_option maxRecDepth 100000 in
theorem lk155_11 : xAt kT155 11 (.iload_n 2) 12 := ⟨1, rfl, Or.inr rfl, rfl⟩
set_option maxRecDepth 100000 in
theorem lk155_12 : xAt kT155 12 (.putfield 342) 15 := ⟨3, rfl, Or.inr rfl, rfl⟩
set_option maxRecDepth 100000 in
theorem lk155_15 : xAt kT155 15 (.aload 6) 17 := ⟨2, rfl, Or.inr rfl, rfl⟩
set_option maxRecDepth 100000 in
theorem lk155_17 : xAt kT155 17 (.iload_n 3) 18 := ⟨1, rfl, Or.inr rfl, rfl⟩
set_option maxRecDepth 100000 in
theorem lk155_18 : xAt kT155 18 (.putfield 343) 21 := ⟨3, rfl, Or.inr rfl, rfl⟩
set_option maxRecDepth 100000 in
theorem lk155_21 : xAt kT155 21 (.aload 6) 23 := ⟨2, rfl, Or.inr rfl, rfl⟩
set_option maxRecDepth 100000 in
theorem lk155_23 : xAt kT155 23 (.iload 4) 25 := ⟨2, rfl, Or.inr rfl, rfl⟩
set_option maxRecDepth 100000 in
theorem lk155_25 : xAt kT155 25 (.putfield 189) 28 := ⟨3, rfl, Or.inr rfl, rfl⟩
set_option maxRecDepth 100000 in
theorem lk155_28 : xAt kT155 28 (.aload 6) 30 := ⟨2, rfl, Or.inr rfl, rfl⟩
set_option maxRecDepth 100000 in
theorem lk155_30 : xAt kT155 30 (.aload_n 0) 31 := ⟨1, rfl, Or.inr rfl, rfl⟩
set_option maxRecDepth 100000 in
theorem lk155_31 : xAt kT155 31 (.getfield 81) 34 := ⟨3, rfl, Or.inr rfl, rfl⟩
set_option maxRecDepth 100000 in
theorem lk155_34 : xAt kT155 34 (.getfield 355) 37 := ⟨3, rfl, Or.inr rfl, rfl⟩
set_option maxRecDepth 100000 in
theorem lk155_37 : xAt kT155 37 (.iconst 0) 38 := ⟨1, rfl, Or.inr rfl, rfl⟩
set_option maxRecDepth 100000 in
theorem lk155_38 : xAt kT155 38 (.iload 5) 40 := ⟨2, rfl, Or.inr rfl, rfl⟩
set_option maxRecDepth 100000 in
theorem lk155_40 : xAt kT155 40 (.invokevirtual 358) 43 := ⟨3, rfl, Or.inr rfl, rfl⟩
set_option maxRecDepth 100000 in
theorem lk155_43 : xAt kT155 43 (.aload_n 0) 44 := ⟨1, rfl, Or.inr rfl, rfl⟩
set_option maxRecDepth 100000 in
theorem lk155_44 : xAt kT155 44 (.aload 6) 46 := ⟨2, rfl, Or.inr rfl, rfl⟩
set_option maxRecDepth 100000 in
theorem lk155_46 : xAt kT155 46 (.invokevirtual 362) 49 := ⟨3, rfl, Or.inr rfl, rfl⟩
set_option maxRecDepth 100000 in
theorem lk155_49 : xAt kT155 49 (.return_) 50 := ⟨1, rfl, Or.inr rfl, rfl⟩
set_option maxRecDepth 100000 in
theorem lk121_0 : xAt kT121 0 (.aload_n 0) 1 := ⟨1, rfl, Or.inr rfl, rfl⟩
set_option maxRecDepth 100000 in
theorem lk121_1 : xAt kT121 1 (.getfield 85) 4 := ⟨3, rfl, Or.inr rfl, rfl⟩
set_option maxRecDepth 100000 in
theorem lk121_4 : xAt kT121 4 (.iconst 3) 5 := ⟨1, rfl, Or.inr rfl, rfl⟩
set_option maxRecDepth 100000 in
theorem lk121_5 : xAt kT121 5 (.if_icmp .ne 13) 8 := ⟨3, rfl, Or.inr rfl, rfl⟩
set_option maxRecDepth 100000 in
theorem lk121_8 : xAt kT121 8 (.aload_n 0) 9 := ⟨1, rfl, Or.inr rfl, rfl⟩
set_option maxRecDepth 100000 in
theorem lk121_9 : xAt kT121 9 (.getfield 28) 12 := ⟨3, rfl, Or.inr rfl, rfl⟩
set_option maxRecDepth 100000 in
theorem lk121_12 : xAt kT121 12 (.getfield 125) 15 := ⟨3, rfl, Or.inr rfl, rfl⟩
set_option maxRecDepth 100000 in
theorem lk121_15 : xAt kT121 15 (.ifCond .ne 4) 18 := ⟨3, rfl, Or.inr rfl, rfl⟩
set_option maxRecDepth 100000 in
theorem lk121_18 : xAt kT121 18 (.return_) 19 := ⟨1, rfl, Or.inr rfl, rfl⟩
set_option maxRecDepth 100000 in
theorem lk121_19 : xAt kT121 19 (.aload_n 0) 20 := ⟨1, rfl, Or.inr rfl, rfl⟩
set_option maxRecDepth 100000 in
theorem lk121_20 : xAt kT121 20 (.getfield 21) 23 := ⟨3, rfl, Or.inr rfl, rfl⟩
set_option maxRecDepth 100000 in
theorem lk121_23 : xAt kT121 23 (.getfield 462) 26 := ⟨3, rfl, Or.inr rfl, rfl⟩
set_option maxRecDepth 100000 in
theorem lk121_26 : xAt kT121 26 (.aload_n 0) 27 := ⟨1, rfl, Or.inr rfl, rfl⟩
set_option maxRecDepth 100000 in
theorem lk121_27 : xAt kT121 27 (.getfield 72) 30 := ⟨3, rfl, Or.inr rfl, rfl⟩
set_option maxRecDepth 100000 in
theorem lk121_30 : xAt kT121 30 (.getfield 106) 33 := ⟨3, rfl, Or.inr rfl, rfl⟩
set_option maxRecDepth 100000 in
theorem lk121_33 : xAt kT121 33 (.invokestatic 434) 36 := ⟨3, rfl, Or.inr rfl, rfl⟩
set_option maxRecDepth 100000 in
theorem lk121_36 : xAt kT121 36 (.istore_n 1) 37 := ⟨1, rfl, Or.inr rfl, rfl⟩
set_option maxRecDepth 100000 in
theorem lk121_37 : xAt kT121 37 (.iconst 0) 38 := ⟨1, rfl, Or.inr rfl, rfl⟩
set_option maxRecDepth 100000 in
theorem lk121_38 : xAt kT121 38 (.aload_n 0) 39 := ⟨1, rfl, Or.inr rfl, rfl⟩
set_option maxRecDepth 100000 in
theorem lk121_39 : xAt kT121 39 (.getfield 28) 42 := ⟨3, rfl, Or.inr rfl, rfl⟩
set_option maxRecDepth 100000 in
theorem lk121_42 : xAt kT121 42 (.getfield 595) 45 := ⟨3, rfl, Or.inr rfl, rfl⟩
set_option maxRecDepth 100000 in
theorem lk121_45 : xAt kT121 45 (.bipush 32) 47 := ⟨2, rfl, Or.inr rfl, rfl⟩
set_option maxRecDepth 100000 in
theorem lk121_47 : xAt kT121 47 (.isub) 48 := ⟨1, rfl, Or.inr rfl, rfl⟩
set_option maxRecDepth 100000 in
theorem lk121_48 : xAt kT121 48 (.invokestatic 293) 51 := ⟨3, rfl, Or.inr rfl, rfl⟩
set_option maxRecDepth 100000 in
theorem lk121_51 : xAt kT121 51 (.istore_n 2) 52 := ⟨1, rfl, Or.inr rfl, rfl⟩
set_option maxRecDepth 100000 in
theorem lk121_52 : xAt kT121 52 (.iload_n 2) 53 := ⟨1, rfl, Or.inr rfl, rfl⟩
set_option maxRecDepth 100000 in
theorem lk121_53 : xAt kT121 53 (.aload_n 0) 54 := ⟨1, rfl, Or.inr rfl, rfl⟩
set_option maxRecDepth 100000 in
theorem lk121_54 : xAt kT121 54 (.getfield 28) 57 := ⟨3, rfl, Or.inr rfl, rfl⟩
set_option maxRecDepth 100000 in
theorem lk121_57 : xAt kT121 57 (.getfield 595) 60 := ⟨3, rfl, Or.inr rfl, rfl⟩
set_option maxRecDepth 100000 in
theorem lk121_60 : xAt kT121 60 (.if_icmp .ge 144) 63 := ⟨3, rfl, Or.inr rfl, rfl⟩
set_option maxRecDepth 100000 in
theorem lk121_63 : xAt kT121 63 (.iload_n 2) 64 := ⟨1, rfl, Or.inr rfl, rfl⟩
set_option maxRecDepth 100000 in
theorem lk121_64 : xAt kT121 64 (.invokestatic 598) 67 := ⟨3, rfl, Or.inr rfl, rfl⟩
set_option maxRecDepth 100000 in
theorem lk121_67 : xAt kT121 67 (.istore_n 3) 68 := ⟨1, rfl, Or.inr rfl, rfl⟩
set_option maxRecDepth 100000 in
theorem lk121_68 : xAt kT121 68 (.aload_n 0) 69 := ⟨1, rfl, Or.inr rfl, rfl⟩
set_option maxRecDepth 100000 in
theorem lk121_69 : xAt kT121 69 (.getfield 28) 72 := ⟨3, rfl, Or.inr rfl, rfl⟩
set_option maxRecDepth 100000 in
theorem lk121_72 : xAt kT121 72 (.getfield 601) 75 := ⟨3, rfl, Or.inr rfl, rfl⟩
set_option maxRecDepth 100000 in
theorem lk121_75 : xAt kT121 75 (.iload_n 3) 76 := ⟨1, rfl, Or.inr rfl, rfl⟩
set_option maxRecDepth 100000 in
theorem lk121_76 : xAt kT121 76 (.baload) 77 := ⟨1, rfl, Or.inr rfl, rfl⟩
set_option maxRecDepth 100000 in
theorem lk121_77 : xAt kT121 77 (.ifCond .eq 20) 80 := ⟨3, rfl, Or.inr rfl, rfl⟩
set_option maxRecDepth 100000 in
theorem lk121_80 : xAt kT121 80 (.aload_n 0) 81 := ⟨1, rfl, Or.inr rfl, rfl⟩
set_option maxRecDepth 100000 in
theorem lk121_81 : xAt kT121 81 (.getfield 28) 84 := ⟨3, rfl, Or.inr rfl, rfl⟩
set_option maxRecDepth 100000 in
theorem lk121_84 : xAt kT121 84 (.getfield 604) 87 := ⟨3, rfl, Or.inr rfl, rfl⟩
set_option maxRecDepth 100000 in
theorem lk121_87 : xAt kT121 87 (.iload_n 3) 88 := ⟨1, rfl, Or.inr rfl, rfl⟩
set_option maxRecDepth 100000 in
theorem lk121_88 : xAt kT121 88 (.iaload) 89 := ⟨1, rfl, Or.inr rfl, rfl⟩
set_option maxRecDepth 100000 in
theorem lk121_89 : xAt kT121 89 (.iconst (-1)) 90 := ⟨1, rfl, Or.inr rfl, rfl⟩
set_option maxRecDepth 100000 in
theorem lk121_90 : xAt kT121 90 (.if_icmp .eq 7) 93 := ⟨3, rfl, Or.inr rfl, rfl⟩
set_option maxRecDepth 100000 in
theorem lk121_93 : xAt kT121 93 (.iconst 1) 94 := ⟨1, rfl, Or.inr rfl, rfl⟩
set_option maxRecDepth 100000 in
theorem lk121_94 : xAt kT121 94 (.goto 4) 97 := ⟨3, rfl, Or.inr rfl, rfl⟩
set_option maxRecDepth 100000 in
theorem lk121_97 : xAt kT121 97 (.iconst 0) 98 := ⟨1, rfl, Or.inr rfl, rfl⟩
set_option maxRecDepth 100000 in
theorem lk121_98 : xAt kT121 98 (.istore 4) 100 := ⟨2, rfl, Or.inr rfl, rfl⟩
set_option maxRecDepth 100000 in
theorem lk121_100 : xAt kT121 100 (.iload 4) 102 := ⟨2, rfl, Or.inr rfl, rfl⟩
set_option maxRecDepth 100000 in
theorem lk121_102 : xAt kT121 102 (.ifCond .eq 96) 105 := ⟨3, rfl, Or.inr rfl, rfl⟩
set_option maxRecDepth 100000 in
theorem lk121_105 : xAt kT121 105 (.aload_n 0) 106 := ⟨1, rfl, Or.inr rfl, rfl⟩
set_option maxRecDepth 100000 in
theorem lk121_106 : xAt kT121 106 (.getfield 28) 109 := ⟨3, rfl, Or.inr rfl, rfl⟩
set_option maxRecDepth 100000 in
theorem lk121_109 : xAt kT121 109 (.getfield 606) 112 := ⟨3, rfl, Or.inr rfl, rfl⟩
set_option maxRecDepth 100000 in
theorem lk121_112 : xAt kT121 112 (.iload_n 3) 113 := ⟨1, rfl, Or.inr rfl, rfl⟩
set_option maxRecDepth 100000 in
theorem lk121_113 : xAt kT121 113 (.iaload) 114 := ⟨1, rfl, Or.inr rfl, rfl⟩
set_option maxRecDepth 100000 in
theorem lk121_114 : xAt kT121 114 (.aload_n 0) 115 := ⟨1, rfl, Or.inr rfl, rfl⟩
set_option maxRecDepth 100000 in
theorem lk121_115 : xAt kT121 115 (.getfield 72) 118 := ⟨3, rfl, Or.inr rfl, rfl⟩
set_option maxRecDepth 100000 in
theorem lk121_118 : xAt kT121 118 (.getfield 94) 121 := ⟨3, rfl, Or.inr rfl, rfl⟩
set_option maxRecDepth 100000 in
theorem lk121_121 : xAt kT121 121 (.if_icmp .gt 77) 124 := ⟨3, rfl, Or.inr rfl, rfl⟩
set_option maxRecDepth 100000 in
theorem lk121_124 : xAt kT121 124 (.aload_n 0) 125 := ⟨1, rfl, Or.inr rfl, rfl⟩
set_option maxRecDepth 100000 in
theorem lk121_125 : xAt kT121 125 (.getfield 28) 128 := ⟨3, rfl, Or.inr rfl, rfl⟩
set_option maxRecDepth 100000 in
theorem lk121_128 : xAt kT121 128 (.getfield 604) 131 := ⟨3, rfl, Or.inr rfl, rfl⟩
set_option maxRecDepth 100000 in
theorem lk121_131 : xAt kT121 131 (.iload_n 3) 132 := ⟨1, rfl, Or.inr rfl, rfl⟩
set_option maxRecDepth 100000 in
theorem lk121_132 : xAt kT121 132 (.iaload) 133 := ⟨1, rfl, Or.inr rfl, rfl⟩
set_option maxRecDepth 100000 in
theorem lk121_133 : xAt kT121 133 (.iload_n 1) 134 := ⟨1, rfl, Or.inr rfl, rfl⟩
set_option maxRecDepth 100000 in
theorem lk121_134 : xAt kT121 134 (.if_icmp .gt 64) 137 := ⟨3, rfl, Or.inr rfl, rfl⟩
set_option maxRecDepth 100000 in
theorem lk121_137 : xAt kT121 137 (.aload_n 0) 138 := ⟨1, rfl, Or.inr rfl, rfl⟩
set_option maxRecDepth 100000 in
theorem lk121_138 : xAt kT121 138 (.getfield 28) 141 := ⟨3, rfl, Or.inr rfl, rfl⟩
set_option maxRecDepth 100000 in
theorem lk121_141 : xAt kT121 141 (.iload_n 3) 142 := ⟨1, rfl, Or.inr rfl, rfl⟩
set_option maxRecDepth 100000 in
theorem lk121_142 : xAt kT121 142 (.invokevirtual 570) 145 := ⟨3, rfl, Or.inr rfl, rfl⟩
set_option maxRecDepth 100000 in
theorem lk121_145 : xAt kT121 145 (.aload_n 0) 146 := ⟨1, rfl, Or.inr rfl, rfl⟩
set_option maxRecDepth 100000 in
theorem lk121_146 : xAt kT121 146 (.getfield 81) 149 := ⟨3, rfl, Or.inr rfl, rfl⟩
set_option maxRecDepth 100000 in
theorem lk121_149 : xAt kT121 149 (.aload_n 0) 150 := ⟨1, rfl, Or.inr rfl, rfl⟩
set_option maxRecDepth 100000 in
theorem lk121_150 : xAt kT121 150 (.getfield 28) 153 := ⟨3, rfl, Or.inr rfl, rfl⟩
set_option maxRecDepth 100000 in
theorem lk121_153 : xAt kT121 153 (.getfield 609) 156 := ⟨3, rfl, Or.inr rfl, rfl⟩
set_option maxRecDepth 100000 in
theorem lk121_156 : xAt kT121 156 (.iload_n 3) 157 := ⟨1, rfl, Or.inr rfl, rfl⟩
set_option maxRecDepth 100000 in
theorem lk121_157 : xAt kT121 157 (.iaload) 158 := ⟨1, rfl, Or.inr rfl, rfl⟩
set_option maxRecDepth 100000 in
theorem lk121_158 : xAt kT121 158 (.invokevirtual 611) 161 := ⟨3, rfl, Or.inr rfl, rfl⟩
set_option maxRecDepth 100000 in
theorem lk121_161 : xAt kT121 161 (.aload_n 0) 162 := ⟨1, rfl, Or.inr rfl, rfl⟩
set_option maxRecDepth 100000 in
theorem lk121_162 : xAt kT121 162 (.aload_n 0) 163 := ⟨1, rfl, Or.inr rfl, rfl⟩
set_option maxRecDepth 100000 in
theorem lk121_163 : xAt kT121 163 (.getfield 28) 166 := ⟨3, rfl, Or.inr rfl, rfl⟩
set_option maxRecDepth 100000 in
theorem lk121_166 : xAt kT121 166 (.getfield 583) 169 := ⟨3, rfl, Or.inr rfl, rfl⟩
set_option maxRecDepth 100000 in
theorem lk121_169 : xAt kT121 169 (.iload_n 3) 170 := ⟨1, rfl, Or.inr rfl, rfl⟩
set_option maxRecDepth 100000 in
theorem lk121_170 : xAt kT121 170 (.iaload) 171 := ⟨1, rfl, Or.inr rfl, rfl⟩
set_option maxRecDepth 100000 in
theorem lk121_171 : xAt kT121 171 (.aload_n 0) 172 := ⟨1, rfl, Or.inr rfl, rfl⟩
set_option maxRecDepth 100000 in
theorem lk121_172 : xAt kT121 172 (.getfield 28) 175 := ⟨3, rfl, Or.inr rfl, rfl⟩
set_option maxRecDepth 100000 in
theorem lk121_175 : xAt kT121 175 (.getfield 586) 178 := ⟨3, rfl, Or.inr rfl, rfl⟩
set_option maxRecDepth 100000 in
theorem lk121_178 : xAt kT121 178 (.iload_n 3) 179 := ⟨1, rfl, Or.inr rfl, rfl⟩
set_option maxRecDepth 100000 in
theorem lk121_179 : xAt kT121 179 (.iaload) 180 := ⟨1, rfl, Or.inr rfl, rfl⟩
set_option maxRecDepth 100000 in
theorem lk121_180 : xAt kT121 180 (.iconst 0) 181 := ⟨1, rfl, Or.inr rfl, rfl⟩
set_option maxRecDepth 100000 in
theorem lk121_181 : xAt kT121 181 (.aload_n 0) 182 := ⟨1, rfl, Or.inr rfl, rfl⟩
set_option maxRecDepth 100000 in
theorem lk121_182 : xAt kT121 182 (.getfield 72) 185 := ⟨3, rfl, Or.inr rfl, rfl⟩
set_option maxRecDepth 100000 in
theorem lk121_185 : xAt kT121 185 (.getfield 94) 188 := ⟨3, rfl, Or.inr rfl, rfl⟩
set_option maxRecDepth 100000 in
theorem lk121_188 : xAt kT121 188 (.aload_n 0) 189 := ⟨1, rfl, Or.inr rfl, rfl⟩
set_option maxRecDepth 100000 in
theorem lk121_189 : xAt kT121 189 (.getfield 81) 192 := ⟨3, rfl, Or.inr rfl, rfl⟩
set_option maxRecDepth 100000 in
theorem lk121_192 : xAt kT121 192 (.getfield 592) 195 := ⟨3, rfl, Or.inr rfl, rfl⟩
set_option maxRecDepth 100000 in
theorem lk121_195 : xAt kT121 195 (.invokevirtual 542) 198 := ⟨3, rfl, Or.inr rfl, rfl⟩
set_option maxRecDepth 100000 in
theorem lk121_198 : xAt kT121 198 (.iinc 2 1) 201 := ⟨3, rfl, Or.inr rfl, rfl⟩
set_option maxRecDepth 100000 in
theorem lk121_201 : xAt kT121 201 (.goto (-149)) 204 := ⟨3, rfl, Or.inr rfl, rfl⟩
set_option maxRecDepth 100000 in
theorem lk121_204 : xAt kT121 204 (.return_) 205 := ⟨1, rfl, Or.inr rfl, rfl⟩
set_option maxRecDepth 100000 in
theorem lk76_0 : xAt kT76 0 (.aload_n 0) 1 := ⟨1, rfl, Or.inr rfl, rfl⟩
set_option maxRecDepth 100000 in
theorem lk76_1 : xAt kT76 1 (.iconst 0) 2 := ⟨1, rfl, Or.inr rfl, rfl⟩
set_option maxRecDepth 100000 in
theorem lk76_2 : xAt kT76 2 (.putfield 51) 5 := ⟨3, rfl, Or.inr rfl, rfl⟩
set_option maxRecDepth 100000 in
theorem lk76_5 : xAt kT76 5 (.aload_n 0) 6 := ⟨1, rfl, Or.inr rfl, rfl⟩
set_option maxRecDepth 100000 in
theorem lk76_6 : xAt kT76 6 (.iload_n 1) 7 := ⟨1, rfl, Or.inr rfl, rfl⟩
set_option maxRecDepth 100000 in
theorem lk76_7 : xAt kT76 7 (.putfield 54) 10 := ⟨3, rfl, Or.inr rfl, rfl⟩
set_option maxRecDepth 100000 in
theorem lk76_10 : xAt kT76 10 (.aload_n 0) 11 := ⟨1, rfl, Or.inr rfl, rfl⟩
set_option maxRecDepth 100000 in
theorem lk76_11 : xAt kT76 11 (.iconst 0) 12 := ⟨1, rfl, Or.inr rfl, rfl⟩
set_option maxRecDepth 100000 in
theorem lk76_12 : xAt kT76 12 (.putfield 57) 15 := ⟨3, rfl, Or.inr rfl, rfl⟩
set_option maxRecDepth 100000 in
theorem lk76_15 : xAt kT76 15 (.aload_n 2) 16 := ⟨1, rfl, Or.inr rfl, rfl⟩
set_option maxRecDepth 100000 in
theorem lk76_16 : xAt kT76 16 (.iload_n 3) 17 := ⟨1, rfl, Or.inr rfl, rfl⟩
set_option maxRecDepth 100000 in
theorem lk76_17 : xAt kT76 17 (.iconst 5) 18 := ⟨1, rfl, Or.inr rfl, rfl⟩
set_option maxRecDepth 100000 in
theorem lk76_18 : xAt kT76 18 (.iadd) 19 := ⟨1, rfl, Or.inr rfl, rfl⟩
set_option maxRecDepth 100000 in
theorem lk76_19 : xAt kT76 19 (.iaload) 20 := ⟨1, rfl, Or.inr rfl, rfl⟩
set_option maxRecDepth 100000 in
theorem lk76_20 : xAt kT76 20 (.iconst (-1)) 21 := ⟨1, rfl, Or.inr rfl, rfl⟩
set_option maxRecDepth 100000 in
theorem lk76_21 : xAt kT76 21 (.if_icmp .ne 10) 24 := ⟨3, rfl, Or.inr rfl, rfl⟩
set_option maxRecDepth 100000 in
theorem lk76_24 : xAt kT76 24 (.aload_n 0) 25 := ⟨1, rfl, Or.inr rfl, rfl⟩
set_option maxRecDepth 100000 in
theorem lk76_25 : xAt kT76 25 (.iload_n 1) 26 := ⟨1, rfl, Or.inr rfl, rfl⟩
set_option maxRecDepth 100000 in
theorem lk76_26 : xAt kT76 26 (.invokevirtual 60) 29 := ⟨3, rfl, Or.inr rfl, rfl⟩
set_option maxRecDepth 100000 in
theorem lk76_29 : xAt kT76 29 (.iconst (-1)) 30 := ⟨1, rfl, Or.inr rfl, rfl⟩
set_option maxRecDepth 100000 in
theorem lk76_30 : xAt kT76 30 (.ireturn) 31 := ⟨1, rfl, Or.inr rfl, rfl⟩
set_option maxRecDepth 100000 in
theorem lk76_31 : xAt kT76 31 (.aload_n 0) 32 := ⟨1, rfl, Or.inr rfl, rfl⟩
set_option maxRecDepth 100000 in
theorem lk76_32 : xAt kT76 32 (.aload_n 2) 33 := ⟨1, rfl, Or.inr rfl, rfl⟩
set_option maxRecDepth 100000 in
theorem lk76_33 : xAt kT76 33 (.iload_n 3) 34 := ⟨1, rfl, Or.inr rfl, rfl⟩
set_option maxRecDepth 100000 in
theorem lk76_34 : xAt kT76 34 (.iconst 3) 35 := ⟨1, rfl, Or.inr rfl, rfl⟩
set_option maxRecDepth 100000 in
theorem lk76_35 : xAt kT76 35 (.iadd) 36 := ⟨1, rfl, Or.inr rfl, rfl⟩
set_option maxRecDepth 100000 in
theorem lk76_36 : xAt kT76 36 (.iaload) 37 := ⟨1, rfl, Or.inr rfl, rfl⟩
set_option maxRecDepth 100000 in
theorem lk76_37 : xAt kT76 37 (.invokevirtual 64) 40 := ⟨3, rfl, Or.inr rfl, rfl⟩
set_option maxRecDepth 100000 in
theorem lk76_40 : xAt kT76 40 (.istore 4) 42 := ⟨2, rfl, Or.inr rfl, rfl⟩
set_option maxRecDepth 100000 in
theorem lk76_42 : xAt kT76 42 (.iload 4) 44 := ⟨2, rfl, Or.inr rfl, rfl⟩
set_option maxRecDepth 100000 in
theorem lk76_44 : xAt kT76 44 (.iconst (-1)) 45 := ⟨1, rfl, Or.inr rfl, rfl⟩
set_option maxRecDepth 100000 in
theorem lk76_45 : xAt kT76 45 (.if_icmp .ne 10) 48 := ⟨3, rfl, Or.inr rfl, rfl⟩
set_option maxRecDepth 100000 in
theorem lk76_48 : xAt kT76 48 (.aload_n 0) 49 := ⟨1, rfl, Or.inr rfl, rfl⟩
set_option maxRecDepth 100000 in
theorem lk76_49 : xAt kT76 49 (.iconst 2) 50 := ⟨1, rfl, Or.inr rfl, rfl⟩
set_option maxRecDepth 100000 in
theorem lk76_50 : xAt kT76 50 (.putfield 51) 53 := ⟨3, rfl, Or.inr rfl, rfl⟩
set_option maxRecDepth 100000 in
theorem lk76_53 : xAt kT76 53 (.iconst (-1)) 54 := ⟨1, rfl, Or.inr rfl, rfl⟩
set_option maxRecDepth 100000 in
theorem lk76_54 : xAt kT76 54 (.ireturn) 55 := ⟨1, rfl, Or.inr rfl, rfl⟩
set_option maxRecDepth 100000 in
theorem lk76_55 : xAt kT76 55 (.iload 4) 57 := ⟨2, rfl, Or.inr rfl, rfl⟩
set_option maxRecDepth 100000 in
theorem lk76_57 : xAt kT76 57 (.iconst 5) 58 := ⟨1, rfl, Or.inr rfl, rfl⟩
set_option maxRecDepth 100000 in
theorem lk76_58 : xAt kT76 58 (.imul) 59 := ⟨1, rfl, Or.inr rfl, rfl⟩
set_option maxRecDepth 100000 in
theorem lk76_59 : xAt kT76 59 (.istore 5) 61 := ⟨2, rfl, Or.inr rfl, rfl⟩
set_option maxRecDepth 100000 in
theorem lk76_61 : xAt kT76 61 (.aload_n 0) 62 := ⟨1, rfl, Or.inr rfl, rfl⟩
set_option maxRecDepth 100000 in
theorem lk76_62 : xAt kT76 62 (.getfield 11) 65 := ⟨3, rfl, Or.inr rfl, rfl⟩
set_option maxRecDepth 100000 in
theorem lk76_65 : xAt kT76 65 (.iload 5) 67 := ⟨2, rfl, Or.inr rfl, rfl⟩
set_option maxRecDepth 100000 in
theorem lk76_67 : xAt kT76 67 (.iconst 2) 68 := ⟨1, rfl, Or.inr rfl, rfl⟩
set_option maxRecDepth 100000 in
theorem lk76_68 : xAt kT76 68 (.iadd) 69 := ⟨1, rfl, Or.inr rfl, rfl⟩
set_option maxRecDepth 100000 in
theorem lk76_69 : xAt kT76 69 (.iaload) 70 := ⟨1, rfl, Or.inr rfl, rfl⟩
set_option maxRecDepth 100000 in
theorem lk76_70 : xAt kT76 70 (.istore 6) 72 := ⟨2, rfl, Or.inr rfl, rfl⟩
set_option maxRecDepth 100000 in
theorem lk76_72 : xAt kT76 72 (.aload_n 0) 73 := ⟨1, rfl, Or.inr rfl, rfl⟩
set_option maxRecDepth 100000 in
theorem lk76_73 : xAt kT76 73 (.getfield 11) 76 := ⟨3, rfl, Or.inr rfl, rfl⟩
set_option maxRecDepth 100000 in
theorem lk76_76 : xAt kT76 76 (.iload 5) 78 := ⟨2, rfl, Or.inr rfl, rfl⟩
set_option maxRecDepth 100000 in
theorem lk76_78 : xAt kT76 78 (.iconst 1) 79 := ⟨1, rfl, Or.inr rfl, rfl⟩
set_option maxRecDepth 100000 in
theorem lk76_79 : xAt kT76 79 (.iadd) 80 := ⟨1, rfl, Or.inr rfl, rfl⟩
set_option maxRecDepth 100000 in
theorem lk76_80 : xAt kT76 80 (.iload_n 1) 81 := ⟨1, rfl, Or.inr rfl, rfl⟩
set_option maxRecDepth 100000 in
theorem lk76_81 : xAt kT76 81 (.iastore) 82 := ⟨1, rfl, Or.inr rfl, rfl⟩
set_option maxRecDepth 100000 in
theorem lk76_82 : xAt kT76 82 (.aload_n 2) 83 := ⟨1, rfl, Or.inr rfl, rfl⟩
set_option maxRecDepth 100000 in
theorem lk76_83 : xAt kT76 83 (.iload_n 3) 84 := ⟨1, rfl, Or.inr rfl, rfl⟩
set_option maxRecDepth 100000 in
theorem lk76_84 : xAt kT76 84 (.iconst 4) 85 := ⟨1, rfl, Or.inr rfl, rfl⟩
set_option maxRecDepth 100000 in
theorem lk76_85 : xAt kT76 85 (.iadd) 86 := ⟨1, rfl, Or.inr rfl, rfl⟩
set_option maxRecDepth 100000 in
theorem lk76_86 : xAt kT76 86 (.iaload) 87 := ⟨1, rfl, Or.inr rfl, rfl⟩
set_option maxRecDepth 100000 in
theorem lk76_87 : xAt kT76 87 (.iload 6) 89 := ⟨2, rfl, Or.inr rfl, rfl⟩
set_option maxRecDepth 100000 in
theorem lk76_89 : xAt kT76 89 (.if_icmp .le 6) 92 := ⟨3, rfl, Or.inr rfl, rfl⟩
set_option maxRecDepth 100000 in
theorem lk76_92 : xAt kT76 92 (.iload 4) 94 := ⟨2, rfl, Or.inr rfl, rfl⟩
set_option maxRecDepth 100000 in
theorem lk76_94 : xAt kT76 94 (.ireturn) 95 := ⟨1, rfl, Or.inr rfl, rfl⟩
set_option maxRecDepth 100000 in
theorem lk76_95 : xAt kT76 95 (.aload_n 2) 96 := ⟨1, rfl, Or.inr rfl, rfl⟩
set_option maxRecDepth 100000 in
theorem lk76_96 : xAt kT76 96 (.iload_n 3) 97 := ⟨1, rfl, Or.inr rfl, rfl⟩
set_option maxRecDepth 100000 in
theorem lk76_97 : xAt kT76 97 (.iconst 4) 98 := ⟨1, rfl, Or.inr rfl, rfl⟩
set_option maxRecDepth 100000 in
theorem lk76_98 : xAt kT76 98 (.iadd) 99 := ⟨1, rfl, Or.inr rfl, rfl⟩
set_option maxRecDepth 100000 in
theorem lk76_99 : xAt kT76 99 (.iaload) 100 := ⟨1, rfl, Or.inr rfl, rfl⟩
set_option maxRecDepth 100000 in
theorem lk76_100 : xAt kT76 100 (.iload 6) 102 := ⟨2, rfl, Or.inr rfl, rfl⟩
set_option maxRecDepth 100000 in
theorem lk76_102 : xAt kT76 102 (.if_icmp .ge 10) 105 := ⟨3, rfl, Or.inr rfl, rfl⟩
set_option maxRecDepth 100000 in
theorem lk76_105 : xAt kT76 105 (.aload_n 0) 106 := ⟨1, rfl, Or.inr rfl, rfl⟩
set_option maxRecDepth 100000 in
theorem lk76_106 : xAt kT76 106 (.iconst (-1)) 107 := ⟨1, rfl, Or.inr rfl, rfl⟩
set_option maxRecDepth 100000 in
theorem lk76_107 : xAt kT76 107 (.putfield 51) 110 := ⟨3, rfl, Or.inr rfl, rfl⟩
set_option maxRecDepth 100000 in
theorem lk76_110 : xAt kT76 110 (.iconst (-1)) 111 := ⟨1, rfl, Or.inr rfl, rfl⟩
set_option maxRecDepth 100000 in
theorem lk76_111 : xAt kT76 111 (.ireturn) 112 := ⟨1, rfl, Or.inr rfl, rfl⟩
set_option maxRecDepth 100000 in
theorem lk76_112 : xAt kT76 112 (.aload_n 0) 113 := ⟨1, rfl, Or.inr rfl, rfl⟩
set_option maxRecDepth 100000 in
theorem lk76_113 : xAt kT76 113 (.aload_n 0) 114 := ⟨1, rfl, Or.inr rfl, rfl⟩
set_option maxRecDepth 100000 in
theorem lk76_114 : xAt kT76 114 (.getfield 11) 117 := ⟨3, rfl, Or.inr rfl, rfl⟩
set_option maxRecDepth 100000 in
theorem lk76_117 : xAt kT76 117 (.iload 5) 119 := ⟨2, rfl, Or.inr rfl, rfl⟩
set_option maxRecDepth 100000 in
theorem lk76_119 : xAt kT76 119 (.iconst 3) 120 := ⟨1, rfl, Or.inr rfl, rfl⟩
set_option maxRecDepth 100000 in
theorem lk76_120 : xAt kT76 120 (.iadd) 121 := ⟨1, rfl, Or.inr rfl, rfl⟩
set_option maxRecDepth 100000 in
theorem lk76_121 : xAt kT76 121 (.iaload) 122 := ⟨1, rfl, Or.inr rfl, rfl⟩
set_option maxRecDepth 100000 in
theorem lk76_122 : xAt kT76 122 (.putfield 54) 125 := ⟨3, rfl, Or.inr rfl, rfl⟩
set_option maxRecDepth 100000 in
theorem lk76_125 : xAt kT76 125 (.aload_n 0) 126 := ⟨1, rfl, Or.inr rfl, rfl⟩
set_option maxRecDepth 100000 in
theorem lk76_126 : xAt kT76 126 (.aload_n 0) 127 := ⟨1, rfl, Or.inr rfl, rfl⟩
set_option maxRecDepth 100000 in
theorem lk76_127 : xAt kT76 127 (.getfield 11) 130 := ⟨3, rfl, Or.inr rfl, rfl⟩
set_option maxRecDepth 100000 in
theorem lk76_130 : xAt kT76 130 (.iload 5) 132 := ⟨2, rfl, Or.inr rfl, rfl⟩
set_option maxRecDepth 100000 in
theorem lk76_132 : xAt kT76 132 (.iconst 4) 133 := ⟨1, rfl, Or.inr rfl, rfl⟩
set_option maxRecDepth 100000 in
theorem lk76_133 : xAt kT76 133 (.iadd) 134 := ⟨1, rfl, Or.inr rfl, rfl⟩
set_option maxRecDepth 100000 in
theorem lk76_134 : xAt kT76 134 (.iaload) 135 := ⟨1, rfl, Or.inr rfl, rfl⟩
set_option maxRecDepth 100000 in
theorem lk76_135 : xAt kT76 135 (.putfield 57) 138 := ⟨3, rfl, Or.inr rfl, rfl⟩
set_option maxRecDepth 100000 in
theorem lk76_138 : xAt kT76 138 (.aload_n 0) 139 := ⟨1, rfl, Or.inr rfl, rfl⟩
set_option maxRecDepth 100000 in
theorem lk76_139 : xAt kT76 139 (.getfield 15) 142 := ⟨3, rfl, Or.inr rfl, rfl⟩
set_option maxRecDepth 100000 in
theorem lk76_142 : xAt kT76 142 (.iload 4) 144 := ⟨2, rfl, Or.inr rfl, rfl⟩
set_option maxRecDepth 100000 in
theorem lk76_144 : xAt kT76 144 (.bipush 101) 146 := ⟨2, rfl, Or.inr rfl, rfl⟩
set_option maxRecDepth 100000 in
theorem lk76_146 : xAt kT76 146 (.imul) 147 := ⟨1, rfl, Or.inr rfl, rfl⟩
set_option maxRecDepth 100000 in
theorem lk76_147 : xAt kT76 147 (.aload_n 0) 148 := ⟨1, rfl, Or.inr rfl, rfl⟩
set_option maxRecDepth 100000 in
theorem lk76_148 : xAt kT76 148 (.getfield 31) 151 := ⟨3, rfl, Or.inr rfl, rfl⟩
set_option maxRecDepth 100000 in
theorem lk76_151 : xAt kT76 151 (.iconst 0) 152 := ⟨1, rfl, Or.inr rfl, rfl⟩
set_option maxRecDepth 100000 in
theorem lk76_152 : xAt kT76 152 (.aload_n 0) 153 := ⟨1, rfl, Or.inr rfl, rfl⟩
set_option maxRecDepth 100000 in
theorem lk76_153 : xAt kT76 153 (.getfield 57) 156 := ⟨3, rfl, Or.inr rfl, rfl⟩
set_option maxRecDepth 100000 in
theorem lk76_156 : xAt kT76 156 (.invokestatic 68) 159 := ⟨3, rfl, Or.inr rfl, rfl⟩
set_option maxRecDepth 100000 in
theorem lk76_159 : xAt kT76 159 (.iconst (-1)) 160 := ⟨1, rfl, Or.inr rfl, rfl⟩
set_option maxRecDepth 100000 in
theorem lk76_160 : xAt kT76 160 (.ireturn) 161 := ⟨1, rfl, Or.inr rfl, rfl⟩
set_option maxRecDepth 100000 in
theorem lk123_0 : xAt kT123 0 (.aload_n 0) 1 := ⟨1, rfl, Or.inr rfl, rfl⟩
set_option maxRecDepth 100000 in
theorem lk123_1 : xAt kT123 1 (.getfield 72) 4 := ⟨3, rfl, Or.inr rfl, rfl⟩
set_option maxRecDepth 100000 in
theorem lk123_4 : xAt kT123 4 (.getfield 94) 7 := ⟨3, rfl, Or.inr rfl, rfl⟩
set_option maxRecDepth 100000 in
theorem lk123_7 : xAt kT123 7 (.iconst 1) 8 := ⟨1, rfl, Or.inr rfl, rfl⟩
set_option maxRecDepth 100000 in
theorem lk123_8 : xAt kT123 8 (.iadd) 9 := ⟨1, rfl, Or.inr rfl, rfl⟩
set_option maxRecDepth 100000 in
theorem lk123_9 : xAt kT123 9 (.istore_n 1) 10 := ⟨1, rfl, Or.inr rfl, rfl⟩
set_option maxRecDepth 100000 in
theorem lk123_10 : xAt kT123 10 (.iload_n 1) 11 := ⟨1, rfl, Or.inr rfl, rfl⟩
set_option maxRecDepth 100000 in
theorem lk123_11 : xAt kT123 11 (.aload_n 0) 12 := ⟨1, rfl, Or.inr rfl, rfl⟩
set_option maxRecDepth 100000 in
theorem lk123_12 : xAt kT123 12 (.getfield 72) 15 := ⟨3, rfl, Or.inr rfl, rfl⟩
set_option maxRecDepth 100000 in
theorem lk123_15 : xAt kT123 15 (.getfield 91) 18 := ⟨3, rfl, Or.inr rfl, rfl⟩
set_option maxRecDepth 100000 in
theorem lk123_18 : xAt kT123 18 (.if_icmp .gt 223) 21 := ⟨3, rfl, Or.inr rfl, rfl⟩
set_option maxRecDepth 100000 in
theorem lk123_21 : xAt kT123 21 (.aload_n 0) 22 := ⟨1, rfl, Or.inr rfl, rfl⟩
set_option maxRecDepth 100000 in
theorem lk123_22 : xAt kT123 22 (.getfield 72) 25 := ⟨3, rfl, Or.inr rfl, rfl⟩
set_option maxRecDepth 100000 in
theorem lk123_25 : xAt kT123 25 (.iload_n 1) 26 := ⟨1, rfl, Or.inr rfl, rfl⟩
set_option maxRecDepth 100000 in
theorem lk123_26 : xAt kT123 26 (.invokevirtual 562) 29 := ⟨3, rfl, Or.inr rfl, rfl⟩
set_option maxRecDepth 100000 in
theorem lk123_29 : xAt kT123 29 (.ifCond .eq 212) 32 := ⟨3, rfl, Or.inr rfl, rfl⟩
set_option maxRecDepth 100000 in
theorem lk123_32 : xAt kT123 32 (.aload_n 0) 33 := ⟨1, rfl, Or.inr rfl, rfl⟩
set_option maxRecDepth 100000 in
theorem lk123_33 : xAt kT123 33 (.getfield 72) 36 := ⟨3, rfl, Or.inr rfl, rfl⟩
set_option maxRecDepth 100000 in
theorem lk123_36 : xAt kT123 36 (.iload_n 1) 37 := ⟨1, rfl, Or.inr rfl, rfl⟩
set_option maxRecDepth 100000 in
theorem lk123_37 : xAt kT123 37 (.putfield 94) 40 := ⟨3, rfl, Or.inr rfl, rfl⟩
set_option maxRecDepth 100000 in
theorem lk123_40 : xAt kT123 40 (.aload_n 0) 41 := ⟨1, rfl, Or.inr rfl, rfl⟩
set_option maxRecDepth 100000 in
theorem lk123_41 : xAt kT123 41 (.getfield 72) 44 := ⟨3, rfl, Or.inr rfl, rfl⟩
set_option maxRecDepth 100000 in
theorem lk123_44 : xAt kT123 44 (.iload_n 1) 45 := ⟨1, rfl, Or.inr rfl, rfl⟩
set_option maxRecDepth 100000 in
theorem lk123_45 : xAt kT123 45 (.invokevirtual 406) 48 := ⟨3, rfl, Or.inr rfl, rfl⟩
set_option maxRecDepth 100000 in
theorem lk123_48 : xAt kT123 48 (.istore_n 2) 49 := ⟨1, rfl, Or.inr rfl, rfl⟩
set_option maxRecDepth 100000 in
theorem lk123_49 : xAt kT123 49 (.aload_n 0) 50 := ⟨1, rfl, Or.inr rfl, rfl⟩
set_option maxRecDepth 100000 in
theorem lk123_50 : xAt kT123 50 (.getfield 28) 53 := ⟨3, rfl, Or.inr rfl, rfl⟩
set_option maxRecDepth 100000 in
theorem lk123_53 : xAt kT123 53 (.iload_n 1) 54 := ⟨1, rfl, Or.inr rfl, rfl⟩
set_option maxRecDepth 100000 in
theorem lk123_54 : xAt kT123 54 (.invokevirtual 565) 57 := ⟨3, rfl, Or.inr rfl, rfl⟩
set_option maxRecDepth 100000 in
theorem lk123_57 : xAt kT123 57 (.istore_n 3) 58 := ⟨1, rfl, Or.inr rfl, rfl⟩
set_option maxRecDepth 100000 in
theorem lk123_58 : xAt kT123 58 (.iload_n 3) 59 := ⟨1, rfl, Or.inr rfl, rfl⟩
set_option maxRecDepth 100000 in
theorem lk123_59 : xAt kT123 59 (.iconst (-1)) 60 := ⟨1, rfl, Or.inr rfl, rfl⟩
set_option maxRecDepth 100000 in
theorem lk123_60 : xAt kT123 60 (.if_icmp .eq 30) 63 := ⟨3, rfl, Or.inr rfl, rfl⟩
set_option maxRecDepth 100000 in
theorem lk123_63 : xAt kT123 63 (.aload_n 0) 64 := ⟨1, rfl, Or.inr rfl, rfl⟩
set_option maxRecDepth 100000 in
theorem lk123_64 : xAt kT123 64 (.getfield 28) 67 := ⟨3, rfl, Or.inr rfl, rfl⟩
set_option maxRecDepth 100000 in
theorem lk123_67 : xAt kT123 67 (.getfield 568) 70 := ⟨3, rfl, Or.inr rfl, rfl⟩
set_option maxRecDepth 100000 in
theorem lk123_70 : xAt kT123 70 (.iload_n 3) 71 := ⟨1, rfl, Or.inr rfl, rfl⟩
set_option maxRecDepth 100000 in
theorem lk123_71 : xAt kT123 71 (.iaload) 72 := ⟨1, rfl, Or.inr rfl, rfl⟩
set_option maxRecDepth 100000 in
theorem lk123_72 : xAt kT123 72 (.aload_n 0) 73 := ⟨1, rfl, Or.inr rfl, rfl⟩
set_option maxRecDepth 100000 in
theorem lk123_73 : xAt kT123 73 (.getfield 72) 76 := ⟨3, rfl, Or.inr rfl, rfl⟩
set_option maxRecDepth 100000 in
theorem lk123_76 : xAt kT123 76 (.getfield 405) 79 := ⟨3, rfl, Or.inr rfl, rfl⟩
set_option maxRecDepth 100000 in
theorem lk123_79 : xAt kT123 79 (.iload_n 2) 80 := ⟨1, rfl, Or.inr rfl, rfl⟩
set_option maxRecDepth 100000 in
theorem lk123_80 : xAt kT123 80 (.iconst 0) 81 := ⟨1, rfl, Or.inr rfl, rfl⟩
set_option maxRecDepth 100000 in
theorem lk123_81 : xAt kT123 81 (.iadd) 82 := ⟨1, rfl, Or.inr rfl, rfl⟩
set_option maxRecDepth 100000 in
theorem lk123_82 : xAt kT123 82 (.iaload) 83 := ⟨1, rfl, Or.inr rfl, rfl⟩
set_option maxRecDepth 100000 in
theorem lk123_83 : xAt kT123 83 (.if_icmp .ne 7) 86 := ⟨3, rfl, Or.inr rfl, rfl⟩
set_option maxRecDepth 100000 in
theorem lk123_86 : xAt kT123 86 (.iconst 1) 87 := ⟨1, rfl, Or.inr rfl, rfl⟩
set_option maxRecDepth 100000 in
theorem lk123_87 : xAt kT123 87 (.goto 4) 90 := ⟨3, rfl, Or.inr rfl, rfl⟩
set_option maxRecDepth 100000 in
theorem lk123_90 : xAt kT123 90 (.iconst 0) 91 := ⟨1, rfl, Or.inr rfl, rfl⟩
set_option maxRecDepth 100000 in
theorem lk123_91 : xAt kT123 91 (.istore 4) 93 := ⟨2, rfl, Or.inr rfl, rfl⟩
set_option maxRecDepth 100000 in
theorem lk123_93 : xAt kT123 93 (.iload_n 3) 94 := ⟨1, rfl, Or.inr rfl, rfl⟩
set_option maxRecDepth 100000 in
theorem lk123_94 : xAt kT123 94 (.iconst (-1)) 95 := ⟨1, rfl, Or.inr rfl, rfl⟩
set_option maxRecDepth 100000 in
theorem lk123_95 : xAt kT123 95 (.if_icmp .eq 11) 98 := ⟨3, rfl, Or.inr rfl, rfl⟩
set_option maxRecDepth 100000 in
theorem lk123_98 : xAt kT123 98 (.aload_n 0) 99 := ⟨1, rfl, Or.inr rfl, rfl⟩
set_option maxRecDepth 100000 in
theorem lk123_99 : xAt kT123 99 (.getfield 28) 102 := ⟨3, rfl, Or.inr rfl, rfl⟩
set_option maxRecDepth 100000 in
theorem lk123_102 : xAt kT123 102 (.iload_n 3) 103 := ⟨1, rfl, Or.inr rfl, rfl⟩
set_option maxRecDepth 100000 in
theorem lk123_103 : xAt kT123 103 (.invokevirtual 570) 106 := ⟨3, rfl, Or.inr rfl, rfl⟩
set_option maxRecDepth 100000 in
theorem lk123_106 : xAt kT123 106 (.aload_n 0) 107 := ⟨1, rfl, Or.inr rfl, rfl⟩
set_option maxRecDepth 100000 in
theorem lk123_107 : xAt kT123 107 (.getfield 72) 110 := ⟨3, rfl, Or.inr rfl, rfl⟩
set_option maxRecDepth 100000 in
theorem lk123_110 : xAt kT123 110 (.getfield 405) 113 := ⟨3, rfl, Or.inr rfl, rfl⟩
set_option maxRecDepth 100000 in
theorem lk123_113 : xAt kT123 113 (.iload_n 2) 114 := ⟨1, rfl, Or.inr rfl, rfl⟩
set_option maxRecDepth 100000 in
theorem lk123_114 : xAt kT123 114 (.iconst 1) 115 := ⟨1, rfl, Or.inr rfl, rfl⟩
set_option maxRecDepth 100000 in
theorem lk123_115 : xAt kT123 115 (.iadd) 116 := ⟨1, rfl, Or.inr rfl, rfl⟩
set_option maxRecDepth 100000 in
theorem lk123_116 : xAt kT123 116 (.iaload) 117 := ⟨1, rfl, Or.inr rfl, rfl⟩
set_option maxRecDepth 100000 in
theorem lk123_117 : xAt kT123 117 (.iconst 2) 118 := ⟨1, rfl, Or.inr rfl, rfl⟩
set_option maxRecDepth 100000 in
theorem lk123_118 : xAt kT123 118 (.if_icmp .ne 117) 121 := ⟨3, rfl, Or.inr rfl, rfl⟩
set_option maxRecDepth 100000 in
theorem lk123_121 : xAt kT123 121 (.aload_n 0) 122 := ⟨1, rfl, Or.inr rfl, rfl⟩
set_option maxRecDepth 100000 in
theorem lk123_122 : xAt kT123 122 (.getfield 81) 125 := ⟨3, rfl, Or.inr rfl, rfl⟩
set_option maxRecDepth 100000 in
theorem lk123_125 : xAt kT123 125 (.iload_n 1) 126 := ⟨1, rfl, Or.inr rfl, rfl⟩
set_option maxRecDepth 100000 in
theorem lk123_126 : xAt kT123 126 (.aload_n 0) 127 := ⟨1, rfl, Or.inr rfl, rfl⟩
set_option maxRecDepth 100000 in
theorem lk123_127 : xAt kT123 127 (.getfield 72) 130 := ⟨3, rfl, Or.inr rfl, rfl⟩
set_option maxRecDepth 100000 in
theorem lk123_130 : xAt kT123 130 (.getfield 405) 133 := ⟨3, rfl, Or.inr rfl, rfl⟩
set_option maxRecDepth 100000 in
theorem lk123_133 : xAt kT123 133 (.iload_n 2) 134 := ⟨1, rfl, Or.inr rfl, rfl⟩
set_option maxRecDepth 100000 in
theorem lk123_134 : xAt kT123 134 (.invokevirtual 573) 137 := ⟨3, rfl, Or.inr rfl, rfl⟩
set_option maxRecDepth 100000 in
theorem lk123_137 : xAt kT123 137 (.istore 5) 139 := ⟨2, rfl, Or.inr rfl, rfl⟩
set_option maxRecDepth 100000 in
theorem lk123_139 : xAt kT123 139 (.iload 5) 141 := ⟨2, rfl, Or.inr rfl, rfl⟩
set_option maxRecDepth 100000 in
theorem lk123_141 : xAt kT123 141 (.iconst (-1)) 142 := ⟨1, rfl, Or.inr rfl, rfl⟩
set_option maxRecDepth 100000 in
theorem lk123_142 : xAt kT123 142 (.if_icmp .eq 34) 145 := ⟨3, rfl, Or.inr rfl, rfl⟩
set_option maxRecDepth 100000 in
theorem lk123_145 : xAt kT123 145 (.aload_n 0) 146 := ⟨1, rfl, Or.inr rfl, rfl⟩
set_option maxRecDepth 100000 in
theorem lk123_146 : xAt kT123 146 (.getfield 81) 149 := ⟨3, rfl, Or.inr rfl, rfl⟩
set_option maxRecDepth 100000 in
theorem lk123_149 : xAt kT123 149 (.iload 5) 151 := ⟨2, rfl, Or.inr rfl, rfl⟩
set_option maxRecDepth 100000 in
theorem lk123_151 : xAt kT123 151 (.aload_n 0) 152 := ⟨1, rfl, Or.inr rfl, rfl⟩
set_option maxRecDepth 100000 in
theorem lk123_152 : xAt kT123 152 (.getfield 72) 155 := ⟨3, rfl, Or.inr rfl, rfl⟩
set_option maxRecDepth 100000 in
theorem lk123_155 : xAt kT123 155 (.getfield 405) 158 := ⟨3, rfl, Or.inr rfl, rfl⟩
set_option maxRecDepth 100000 in
theorem lk123_158 : xAt kT123 158 (.iload_n 2) 159 := ⟨1, rfl, Or.inr rfl, rfl⟩
set_option maxRecDepth 100000 in
theorem lk123_159 : xAt kT123 159 (.iconst 4) 160 := ⟨1, rfl, Or.inr rfl, rfl⟩
set_option maxRecDepth 100000 in
theorem lk123_160 : xAt kT123 160 (.iadd) 161 := ⟨1, rfl, Or.inr rfl, rfl⟩
set_option maxRecDepth 100000 in
theorem lk123_161 : xAt kT123 161 (.iaload) 162 := ⟨1, rfl, Or.inr rfl, rfl⟩
set_option maxRecDepth 100000 in
theorem lk123_162 : xAt kT123 162 (.aload_n 0) 163 := ⟨1, rfl, Or.inr rfl, rfl⟩
set_option maxRecDepth 100000 in
theorem lk123_163 : xAt kT123 163 (.getfield 72) 166 := ⟨3, rfl, Or.inr rfl, rfl⟩
set_option maxRecDepth 100000 in
theorem lk123_166 : xAt kT123 166 (.getfield 405) 169 := ⟨3, rfl, Or.inr rfl, rfl⟩
set_option maxRecDepth 100000 in
theorem lk123_169 : xAt kT123 169 (.iload_n 2) 170 := ⟨1, rfl, Or.inr rfl, rfl⟩
set_option maxRecDepth 100000 in
theorem lk123_170 : xAt kT123 170 (.iconst 5) 171 := ⟨1, rfl, Or.inr rfl, rfl⟩
set_option maxRecDepth 100000 in
theorem lk123_171 : xAt kT123 171 (.iadd) 172 := ⟨1, rfl, Or.inr rfl, rfl⟩
set_option maxRecDepth 100000 in
theorem lk123_172 : xAt kT123 172 (.iaload) 173 := ⟨1, rfl, Or.inr rfl, rfl⟩
set_option maxRecDepth 100000 in
theorem lk123_173 : xAt kT123 173 (.invokevirtual 577) 176 := ⟨3, rfl, Or.inr rfl, rfl⟩
set_option maxRecDepth 100000 in
theorem lk123_176 : xAt kT123 176 (.iload 4) 178 := ⟨2, rfl, Or.inr rfl, rfl⟩
set_option maxRecDepth 100000 in
theorem lk123_178 : xAt kT123 178 (.ifCond .eq 57) 181 := ⟨3, rfl, Or.inr rfl, rfl⟩
set_option maxRecDepth 100000 in
theorem lk123_181 : xAt kT123 181 (.aload_n 0) 182 := ⟨1, rfl, Or.inr rfl, rfl⟩
set_option maxRecDepth 100000 in
theorem lk123_182 : xAt kT123 182 (.getfield 81) 185 := ⟨3, rfl, Or.inr rfl, rfl⟩
set_option maxRecDepth 100000 in
theorem lk123_185 : xAt kT123 185 (.getfield 580) 188 := ⟨3, rfl, Or.inr rfl, rfl⟩
set_option maxRecDepth 100000 in
theorem lk123_188 : xAt kT123 188 (.iconst (-1)) 189 := ⟨1, rfl, Or.inr rfl, rfl⟩
set_option maxRecDepth 100000 in
theorem lk123_189 : xAt kT123 189 (.if_icmp .eq 46) 192 := ⟨3, rfl, Or.inr rfl, rfl⟩
set_option maxRecDepth 100000 in
theorem lk123_192 : xAt kT123 192 (.aload_n 0) 193 := ⟨1, rfl, Or.inr rfl, rfl⟩
set_option maxRecDepth 100000 in
theorem lk123_193 : xAt kT123 193 (.aload_n 0) 194 := ⟨1, rfl, Or.inr rfl, rfl⟩
set_option maxRecDepth 100000 in
theorem lk123_194 : xAt kT123 194 (.getfield 28) 197 := ⟨3, rfl, Or.inr rfl, rfl⟩
set_option maxRecDepth 100000 in
theorem lk123_197 : xAt kT123 197 (.getfield 583) 200 := ⟨3, rfl, Or.inr rfl, rfl⟩
set_option maxRecDepth 100000 in
theorem lk123_200 : xAt kT123 200 (.iload_n 3) 201 := ⟨1, rfl, Or.inr rfl, rfl⟩
set_option maxRecDepth 100000 in
theorem lk123_201 : xAt kT123 201 (.iaload) 202 := ⟨1, rfl, Or.inr rfl, rfl⟩
set_option maxRecDepth 100000 in
theorem lk123_202 : xAt kT123 202 (.aload_n 0) 203 := ⟨1, rfl, Or.inr rfl, rfl⟩
set_option maxRecDepth 100000 in
theorem lk123_203 : xAt kT123 203 (.getfield 28) 206 := ⟨3, rfl, Or.inr rfl, rfl⟩
set_option maxRecDepth 100000 in
theorem lk123_206 : xAt kT123 206 (.getfield 586) 209 := ⟨3, rfl, Or.inr rfl, rfl⟩
set_option maxRecDepth 100000 in
theorem lk123_209 : xAt kT123 209 (.iload_n 3) 210 := ⟨1, rfl, Or.inr rfl, rfl⟩
set_option maxRecDepth 100000 in
theorem lk123_210 : xAt kT123 210 (.iaload) 211 := ⟨1, rfl, Or.inr rfl, rfl⟩
set_option maxRecDepth 100000 in
theorem lk123_211 : xAt kT123 211 (.aload_n 0) 212 := ⟨1, rfl, Or.inr rfl, rfl⟩
set_option maxRecDepth 100000 in
theorem lk123_212 : xAt kT123 212 (.getfield 81) 215 := ⟨3, rfl, Or.inr rfl, rfl⟩
set_option maxRecDepth 100000 in
theorem lk123_215 : xAt kT123 215 (.getfield 580) 218 := ⟨3, rfl, Or.inr rfl, rfl⟩
set_option maxRecDepth 100000 in
theorem lk123_218 : xAt kT123 218 (.aload_n 0) 219 := ⟨1, rfl, Or.inr rfl, rfl⟩
set_option maxRecDepth 100000 in
theorem lk123_219 : xAt kT123 219 (.getfield 81) 222 := ⟨3, rfl, Or.inr rfl, rfl⟩
set_option maxRecDepth 100000 in
theorem lk123_222 : xAt kT123 222 (.getfield 589) 225 := ⟨3, rfl, Or.inr rfl, rfl⟩
set_option maxRecDepth 100000 in
theorem lk123_225 : xAt kT123 225 (.aload_n 0) 226 := ⟨1, rfl, Or.inr rfl, rfl⟩
set_option maxRecDepth 100000 in
theorem lk123_226 : xAt kT123 226 (.getfield 81) 229 := ⟨3, rfl, Or.inr rfl, rfl⟩
set_option maxRecDepth 100000 in
theorem lk123_229 : xAt kT123 229 (.getfield 592) 232 := ⟨3, rfl, Or.inr rfl, rfl⟩
set_option maxRecDepth 100000 in
theorem lk123_232 : xAt kT123 232 (.invokevirtual 542) 235 := ⟨3, rfl, Or.inr rfl, rfl⟩
set_option maxRecDepth 100000 in
theorem lk123_235 : xAt kT123 235 (.iinc 1 1) 238 := ⟨3, rfl, Or.inr rfl, rfl⟩
set_option maxRecDepth 100000 in
theorem lk123_238 : xAt kT123 238 (.goto (-228)) 241 := ⟨3, rfl, Or.inr rfl, rfl⟩
set_option maxRecDepth 100000 in
theorem lk123_241 : xAt kT123 241 (.return_) 242 := ⟨1, rfl, Or.inr rfl, rfl⟩
set_option maxRecDepth 100000 in
theorem lk124_0 : xAt kT124 0 (.aload_n 0) 1 := ⟨1, rfl, Or.inr rfl, rfl⟩
set_option maxRecDepth 100000 in
theorem lk124_1 : xAt kT124 1 (.getfield 72) 4 := ⟨3, rfl, Or.inr rfl, rfl⟩
set_option maxRecDepth 100000 in
theorem lk124_4 : xAt kT124 4 (.getfield 106) 7 := ⟨3, rfl, Or.inr rfl, rfl⟩
set_option maxRecDepth 100000 in
theorem lk124_7 : xAt kT124 7 (.bipush 127) 9 := ⟨2, rfl, Or.inr rfl, rfl⟩
set_option maxRecDepth 100000 in
theorem lk124_9 : xAt kT124 9 (.iand) 10 := ⟨1, rfl, Or.inr rfl, rfl⟩
set_option maxRecDepth 100000 in
theorem lk124_10 : xAt kT124 10 (.istore_n 2) 11 := ⟨1, rfl, Or.inr rfl, rfl⟩
set_option maxRecDepth 100000 in
theorem lk124_11 : xAt kT124 11 (.aload_n 0) 12 := ⟨1, rfl, Or.inr rfl, rfl⟩
set_option maxRecDepth 100000 in
theorem lk124_12 : xAt kT124 12 (.getfield 72) 15 := ⟨3, rfl, Or.inr rfl, rfl⟩
set_option maxRecDepth 100000 in
theorem lk124_15 : xAt kT124 15 (.getfield 106) 18 := ⟨3, rfl, Or.inr rfl, rfl⟩
set_option maxRecDepth 100000 in
theorem lk124_18 : xAt kT124 18 (.bipush 14) 20 := ⟨2, rfl, Or.inr rfl, rfl⟩
set_option maxRecDepth 100000 in
theorem lk124_20 : xAt kT124 20 (.ishr) 21 := ⟨1, rfl, Or.inr rfl, rfl⟩
set_option maxRecDepth 100000 in
theorem lk124_21 : xAt kT124 21 (.istore_n 3) 22 := ⟨1, rfl, Or.inr rfl, rfl⟩
set_option maxRecDepth 100000 in
theorem lk124_22 : xAt kT124 22 (.iconst 0) 23 := ⟨1, rfl, Or.inr rfl, rfl⟩
set_option maxRecDepth 100000 in
theorem lk124_23 : xAt kT124 23 (.istore 4) 25 := ⟨2, rfl, Or.inr rfl, rfl⟩
set_option maxRecDepth 100000 in
theorem lk124_25 : xAt kT124 25 (.iload 4) 27 := ⟨2, rfl, Or.inr rfl, rfl⟩
set_option maxRecDepth 100000 in
theorem lk124_27 : xAt kT124 27 (.bipush 7) 29 := ⟨2, rfl, Or.inr rfl, rfl⟩
set_option maxRecDepth 100000 in
theorem lk124_29 : xAt kT124 29 (.if_icmp .ge 70) 32 := ⟨3, rfl, Or.inr rfl, rfl⟩
set_option maxRecDepth 100000 in
theorem lk124_32 : xAt kT124 32 (.iload_n 3) 33 := ⟨1, rfl, Or.inr rfl, rfl⟩
set_option maxRecDepth 100000 in
theorem lk124_33 : xAt kT124 33 (.iload 4) 35 := ⟨2, rfl, Or.inr rfl, rfl⟩
set_option maxRecDepth 100000 in
theorem lk124_35 : xAt kT124 35 (.ishr) 36 := ⟨1, rfl, Or.inr rfl, rfl⟩
set_option maxRecDepth 100000 in
theorem lk124_36 : xAt kT124 36 (.iconst 1) 37 := ⟨1, rfl, Or.inr rfl, rfl⟩
set_option maxRecDepth 100000 in
theorem lk124_37 : xAt kT124 37 (.iand) 38 := ⟨1, rfl, Or.inr rfl, rfl⟩
set_option maxRecDepth 100000 in
theorem lk124_38 : xAt kT124 38 (.ifCond .eq 27) 41 := ⟨3, rfl, Or.inr rfl, rfl⟩
set_option maxRecDepth 100000 in
theorem lk124_41 : xAt kT124 41 (.aload_n 0) 42 := ⟨1, rfl, Or.inr rfl, rfl⟩
set_option maxRecDepth 100000 in
theorem lk124_42 : xAt kT124 42 (.getfield 21) 45 := ⟨3, rfl, Or.inr rfl, rfl⟩
set_option maxRecDepth 100000 in
theorem lk124_45 : xAt kT124 45 (.getfield 459) 48 := ⟨3, rfl, Or.inr rfl, rfl⟩
set_option maxRecDepth 100000 in
theorem lk124_48 : xAt kT124 48 (.iload 4) 50 := ⟨2, rfl, Or.inr rfl, rfl⟩
set_option maxRecDepth 100000 in
theorem lk124_50 : xAt kT124 50 (.iaload) 51 := ⟨1, rfl, Or.inr rfl, rfl⟩
set_option maxRecDepth 100000 in
theorem lk124_51 : xAt kT124 51 (.aload_n 0) 52 := ⟨1, rfl, Or.inr rfl, rfl⟩
set_option maxRecDepth 100000 in
theorem lk124_52 : xAt kT124 52 (.getfield 72) 55 := ⟨3, rfl, Or.inr rfl, rfl⟩
set_option maxRecDepth 100000 in
theorem lk124_55 : xAt kT124 55 (.getfield 91) 58 := ⟨3, rfl, Or.inr rfl, rfl⟩
set_option maxRecDepth 100000 in
theorem lk124_58 : xAt kT124 58 (.if_icmp .lt 7) 61 := ⟨3, rfl, Or.inr rfl, rfl⟩
set_option maxRecDepth 100000 in
theorem lk124_61 : xAt kT124 61 (.iconst 1) 62 := ⟨1, rfl, Or.inr rfl, rfl⟩
set_option maxRecDepth 100000 in
theorem lk124_62 : xAt kT124 62 (.goto 4) 65 := ⟨3, rfl, Or.inr rfl, rfl⟩
set_option maxRecDepth 100000 in
theorem lk124_65 : xAt kT124 65 (.iconst 0) 66 := ⟨1, rfl, Or.inr rfl, rfl⟩
set_option maxRecDepth 100000 in
theorem lk124_66 : xAt kT124 66 (.istore 5) 68 := ⟨2, rfl, Or.inr rfl, rfl⟩
set_option maxRecDepth 100000 in
theorem lk124_68 : xAt kT124 68 (.iload_n 1) 69 := ⟨1, rfl, Or.inr rfl, rfl⟩
set_option maxRecDepth 100000 in
theorem lk124_69 : xAt kT124 69 (.iload 4) 71 := ⟨2, rfl, Or.inr rfl, rfl⟩
set_option maxRecDepth 100000 in
theorem lk124_71 : xAt kT124 71 (.ishr) 72 := ⟨1, rfl, Or.inr rfl, rfl⟩
set_option maxRecDepth 100000 in
theorem lk124_72 : xAt kT124 72 (.iconst 1) 73 := ⟨1, rfl, Or.inr rfl, rfl⟩
set_option maxRecDepth 100000 in
theorem lk124_73 : xAt kT124 73 (.iand) 74 := ⟨1, rfl, Or.inr rfl, rfl⟩
set_option maxRecDepth 100000 in
theorem lk124_74 : xAt kT124 74 (.ifCond .eq 19) 77 := ⟨3, rfl, Or.inr rfl, rfl⟩
set_option maxRecDepth 100000 in
theorem lk124_77 : xAt kT124 77 (.iload_n 2) 78 := ⟨1, rfl, Or.inr rfl, rfl⟩
set_option maxRecDepth 100000 in
theorem lk124_78 : xAt kT124 78 (.iload 4) 80 := ⟨2, rfl, Or.inr rfl, rfl⟩
set_option maxRecDepth 100000 in
theorem lk124_80 : xAt kT124 80 (.ishr) 81 := ⟨1, rfl, Or.inr rfl, rfl⟩
set_option maxRecDepth 100000 in
theorem lk124_81 : xAt kT124 81 (.iconst 1) 82 := ⟨1, rfl, Or.inr rfl, rfl⟩
set_option maxRecDepth 100000 in
theorem lk124_82 : xAt kT124 82 (.iand) 83 := ⟨1, rfl, Or.inr rfl, rfl⟩
set_option maxRecDepth 100000 in
theorem lk124_83 : xAt kT124 83 (.ifCond .ne 10) 86 := ⟨3, rfl, Or.inr rfl, rfl⟩
set_option maxRecDepth 100000 in
theorem lk124_86 : xAt kT124 86 (.iload 5) 88 := ⟨2, rfl, Or.inr rfl, rfl⟩
set_option maxRecDepth 100000 in
theorem lk124_88 : xAt kT124 88 (.ifCond .ne 5) 91 := ⟨3, rfl, Or.inr rfl, rfl⟩
set_option maxRecDepth 100000 in
theorem lk124_91 : xAt kT124 91 (.iconst 0) 92 := ⟨1, rfl, Or.inr rfl, rfl⟩
set_option maxRecDepth 100000 in
theorem lk124_92 : xAt kT124 92 (.ireturn) 93 := ⟨1, rfl, Or.inr rfl, rfl⟩
set_option maxRecDepth 100000 in
theorem lk124_93 : xAt kT124 93 (.iinc 4 1) 96 := ⟨3, rfl, Or.inr rfl, rfl⟩
set_option maxRecDepth 100000 in
theorem lk124_96 : xAt kT124 96 (.goto (-71)) 99 := ⟨3, rfl, Or.inr rfl, rfl⟩
set_option maxRecDepth 100000 in
theorem lk124_99 : xAt kT124 99 (.iconst 1) 100 := ⟨1, rfl, Or.inr rfl, rfl⟩
set_option maxRecDepth 100000 in
theorem lk124_100 : xAt kT124 100 (.ireturn) 101 := ⟨1, rfl, Or.inr rfl, rfl⟩
set_option maxRecDepth 100000 in
theorem lk182_0 : xAt kT182 0 (.aload_n 0) 1 := ⟨1, rfl, Or.inr rfl, rfl⟩
set_option maxRecDepth 100000 in
theorem lk182_1 : xAt kT182 1 (.getfield 72) 4 := ⟨3, rfl, Or.inr rfl, rfl⟩
set_option maxRecDepth 100000 in
theorem lk182_4 : xAt kT182 4 (.getfield 106) 7 := ⟨3, rfl, Or.inr rfl, rfl⟩
set_option maxRecDepth 100000 in
theorem lk182_7 : xAt kT182 7 (.aload_n 0) 8 := ⟨1, rfl, Or.inr rfl, rfl⟩
set_option maxRecDepth 100000 in
theorem lk182_8 : xAt kT182 8 (.getfield 72) 11 := ⟨3, rfl, Or.inr rfl, rfl⟩
set_option maxRecDepth 100000 in
theorem lk182_11 : xAt kT182 11 (.getfield 106) 14 := ⟨3, rfl, Or.inr rfl, rfl⟩
set_option maxRecDepth 100000 in
theorem lk182_14 : xAt kT182 14 (.bipush 7) 16 := ⟨2, rfl, Or.inr rfl, rfl⟩
set_option maxRecDepth 100000 in
theorem lk182_16 : xAt kT182 16 (.ishr) 17 := ⟨1, rfl, Or.inr rfl, rfl⟩
set_option maxRecDepth 100000 in
theorem lk182_17 : xAt kT182 17 (.ior) 18 := ⟨1, rfl, Or.inr rfl, rfl⟩
set_option maxRecDepth 100000 in
theorem lk182_18 : xAt kT182 18 (.bipush 127) 20 := ⟨2, rfl, Or.inr rfl, rfl⟩
set_option maxRecDepth 100000 in
theorem lk182_20 : xAt kT182 20 (.iand) 21 := ⟨1, rfl, Or.inr rfl, rfl⟩
set_option maxRecDepth 100000 in
theorem lk182_21 : xAt kT182 21 (.ireturn) 22 := ⟨1, rfl, Or.inr rfl, rfl⟩
set_option maxRecDepth 100000 in
theorem lk125_0 : xAt kT125 0 (.aload_n 0) 1 := ⟨1, rfl, Or.inr rfl, rfl⟩
set_option maxRecDepth 100000 in
theorem lk125_1 : xAt kT125 1 (.invokevirtual 367) 4 := ⟨3, rfl, Or.inr rfl, rfl⟩
set_option maxRecDepth 100000 in
theorem lk125_4 : xAt kT125 4 (.iconst 1) 5 := ⟨1, rfl, Or.inr rfl, rfl⟩
set_option maxRecDepth 100000 in
theorem lk125_5 : xAt kT125 5 (.aload_n 0) 6 := ⟨1, rfl, Or.inr rfl, rfl⟩
set_option maxRecDepth 100000 in
theorem lk125_6 : xAt kT125 6 (.getfield 60) 9 := ⟨3, rfl, Or.inr rfl, rfl⟩
set_option maxRecDepth 100000 in
theorem lk125_9 : xAt kT125 9 (.ishl) 10 := ⟨1, rfl, Or.inr rfl, rfl⟩
set_option maxRecDepth 100000 in
theorem lk125_10 : xAt kT125 10 (.iconst (-1)) 11 := ⟨1, rfl, Or.inr rfl, rfl⟩
set_option maxRecDepth 100000 in
theorem lk125_11 : xAt kT125 11 (.ixor) 12 := ⟨1, rfl, Or.inr rfl, rfl⟩
set_option maxRecDepth 100000 in
theorem lk125_12 : xAt kT125 12 (.iand) 13 := ⟨1, rfl, Or.inr rfl, rfl⟩
set_option maxRecDepth 100000 in
theorem lk125_13 : xAt kT125 13 (.istore_n 3) 14 := ⟨1, rfl, Or.inr rfl, rfl⟩
set_option maxRecDepth 100000 in
theorem lk125_14 : xAt kT125 14 (.iconst 0) 15 := ⟨1, rfl, Or.inr rfl, rfl⟩
set_option maxRecDepth 100000 in
theorem lk125_15 : xAt kT125 15 (.istore 4) 17 := ⟨2, rfl, Or.inr rfl, rfl⟩
set_option maxRecDepth 100000 in
theorem lk125_17 : xAt kT125 17 (.iload 4) 19 := ⟨2, rfl, Or.inr rfl, rfl⟩
set_option maxRecDepth 100000 in
theorem lk125_19 : xAt kT125 19 (.bipush 7) 21 := ⟨2, rfl, Or.inr rfl, rfl⟩
set_option maxRecDepth 100000 in
theorem lk125_21 : xAt kT125 21 (.if_icmp .ge 70) 24 := ⟨3, rfl, Or.inr rfl, rfl⟩
set_option maxRecDepth 100000 in
theorem lk125_24 : xAt kT125 24 (.iload_n 3) 25 := ⟨1, rfl, Or.inr rfl, rfl⟩
set_option maxRecDepth 100000 in
theorem lk125_25 : xAt kT125 25 (.iload 4) 27 := ⟨2, rfl, Or.inr rfl, rfl⟩
set_option maxRecDepth 100000 in
theorem lk125_27 : xAt kT125 27 (.ishr) 28 := ⟨1, rfl, Or.inr rfl, rfl⟩
set_option maxRecDepth 100000 in
theorem lk125_28 : xAt kT125 28 (.iconst 1) 29 := ⟨1, rfl, Or.inr rfl, rfl⟩
set_option maxRecDepth 100000 in
theorem lk125_29 : xAt kT125 29 (.iand) 30 := ⟨1, rfl, Or.inr rfl, rfl⟩
set_option maxRecDepth 100000 in
theorem lk125_30 : xAt kT125 30 (.ifCond .eq 55) 33 := ⟨3, rfl, Or.inr rfl, rfl⟩
set_option maxRecDepth 100000 in
theorem lk125_33 : xAt kT125 33 (.aload_n 0) 34 := ⟨1, rfl, Or.inr rfl, rfl⟩
set_option maxRecDepth 100000 in
theorem lk125_34 : xAt kT125 34 (.iload 4) 36 := ⟨2, rfl, Or.inr rfl, rfl⟩
set_option maxRecDepth 100000 in
theorem lk125_36 : xAt kT125 36 (.iload_n 1) 37 := ⟨1, rfl, Or.inr rfl, rfl⟩
set_option maxRecDepth 100000 in
theorem lk125_37 : xAt kT125 37 (.invokevirtual 351) 40 := ⟨3, rfl, Or.inr rfl, rfl⟩
set_option maxRecDepth 100000 in
theorem lk125_40 : xAt kT125 40 (.astore 5) 42 := ⟨2, rfl, Or.inr rfl, rfl⟩
set_option maxRecDepth 100000 in
theorem lk125_42 : xAt kT125 42 (.aload 5) 44 := ⟨2, rfl, Or.inr rfl, rfl⟩
set_option maxRecDepth 100000 in
theorem lk125_44 : xAt kT125 44 (.iload_n 2) 45 := ⟨1, rfl, Or.inr rfl, rfl⟩
set_option maxRecDepth 100000 in
theorem lk125_45 : xAt kT125 45 (.putfield 342) 48 := ⟨3, rfl, Or.inr rfl, rfl⟩
set_option maxRecDepth 100000 in
theorem lk125_48 : xAt kT125 48 (.aload 5) 50 := ⟨2, rfl, Or.inr rfl, rfl⟩
set_option maxRecDepth 100000 in
theorem lk125_50 : xAt kT125 50 (.aload_n 0) 51 := ⟨1, rfl, Or.inr rfl, rfl⟩
set_option maxRecDepth 100000 in
theorem lk125_51 : xAt kT125 51 (.getfield 72) 54 := ⟨3, rfl, Or.inr rfl, rfl⟩
set_option maxRecDepth 100000 in
theorem lk125_54 : xAt kT125 54 (.getfield 103) 57 := ⟨3, rfl, Or.inr rfl, rfl⟩
set_option maxRecDepth 100000 in
theorem lk125_57 : xAt kT125 57 (.putfield 189) 60 := ⟨3, rfl, Or.inr rfl, rfl⟩
set_option maxRecDepth 100000 in
theorem lk125_60 : xAt kT125 60 (.aload 5) 62 := ⟨2, rfl, Or.inr rfl, rfl⟩
set_option maxRecDepth 100000 in
theorem lk125_62 : xAt kT125 62 (.aload_n 0) 63 := ⟨1, rfl, Or.inr rfl, rfl⟩
set_option maxRecDepth 100000 in
theorem lk125_63 : xAt kT125 63 (.getfield 72) 66 := ⟨3, rfl, Or.inr rfl, rfl⟩
set_option maxRecDepth 100000 in
theorem lk125_66 : xAt kT125 66 (.aload_n 0) 67 := ⟨1, rfl, Or.inr rfl, rfl⟩
set_option maxRecDepth 100000 in
theorem lk125_67 : xAt kT125 67 (.getfield 72) 70 := ⟨3, rfl, Or.inr rfl, rfl⟩
set_option maxRecDepth 100000 in
theorem lk125_70 : xAt kT125 70 (.getfield 103) 73 := ⟨3, rfl, Or.inr rfl, rfl⟩
set_option maxRecDepth 100000 in
theorem lk125_73 : xAt kT125 73 (.invokevirtual 311) 76 := ⟨3, rfl, Or.inr rfl, rfl⟩
set_option maxRecDepth 100000 in
theorem lk125_76 : xAt kT125 76 (.putfield 370) 79 := ⟨3, rfl, Or.inr rfl, rfl⟩
set_option maxRecDepth 100000 in
theorem lk125_79 : xAt kT125 79 (.aload_n 0) 80 := ⟨1, rfl, Or.inr rfl, rfl⟩
set_option maxRecDepth 100000 in
theorem lk125_80 : xAt kT125 80 (.aload 5) 82 := ⟨2, rfl, Or.inr rfl, rfl⟩
set_option maxRecDepth 100000 in
theorem lk125_82 : xAt kT125 82 (.invokevirtual 362) 85 := ⟨3, rfl, Or.inr rfl, rfl⟩
set_option maxRecDepth 100000 in
theorem lk125_85 : xAt kT125 85 (.iinc 4 1) 88 := ⟨3, rfl, Or.inr rfl, rfl⟩
set_option maxRecDepth 100000 in
theorem lk125_88 : xAt kT125 88 (.goto (-71)) 91 := ⟨3, rfl, Or.inr rfl, rfl⟩
set_option maxRecDepth 100000 in
theorem lk125_91 : xAt kT125 91 (.return_) 92 := ⟨1, rfl, Or.inr rfl, rfl⟩
set_option maxRecDepth 100000 in
theorem lk126_0 : xAt kT126 0 (.aload_n 0) 1 := ⟨1, rfl, Or.inr rfl, rfl⟩
set_option maxRecDepth 100000 in
theorem lk126_1 : xAt kT126 1 (.iconst 0) 2 := ⟨1, rfl, Or.inr rfl, rfl⟩
set_option maxRecDepth 100000 in
theorem lk126_2 : xAt kT126 2 (.putfield 39) 5 := ⟨3, rfl, Or.inr rfl, rfl⟩
set_option maxRecDepth 100000 in
theorem lk126_5 : xAt kT126 5 (.aload_n 0) 6 := ⟨1, rfl, Or.inr rfl, rfl⟩
set_option maxRecDepth 100000 in
theorem lk126_6 : xAt kT126 6 (.iconst 0) 7 := ⟨1, rfl, Or.inr rfl, rfl⟩
set_option maxRecDepth 100000 in
theorem lk126_7 : xAt kT126 7 (.putfield 115) 10 := ⟨3, rfl, Or.inr rfl, rfl⟩
set_option maxRecDepth 100000 in
theorem lk126_10 : xAt kT126 10 (.aload_n 0) 11 := ⟨1, rfl, Or.inr rfl, rfl⟩
set_option maxRecDepth 100000 in
theorem lk126_11 : xAt kT126 11 (.getfield 63) 14 := ⟨3, rfl, Or.inr rfl, rfl⟩
set_option maxRecDepth 100000 in
theorem lk126_14 : xAt kT126 14 (.aload_n 0) 15 := ⟨1, rfl, Or.inr rfl, rfl⟩
set_option maxRecDepth 100000 in
theorem lk126_15 : xAt kT126 15 (.getfield 60) 18 := ⟨3, rfl, Or.inr rfl, rfl⟩
set_option maxRecDepth 100000 in
theorem lk126_18 : xAt kT126 18 (.invokevirtual 226) 21 := ⟨3, rfl, Or.inr rfl, rfl⟩
set_option maxRecDepth 100000 in
theorem lk126_21 : xAt kT126 21 (.aload_n 0) 22 := ⟨1, rfl, Or.inr rfl, rfl⟩
set_option maxRecDepth 100000 in
theorem lk126_22 : xAt kT126 22 (.getfield 63) 25 := ⟨3, rfl, Or.inr rfl, rfl⟩
set_option maxRecDepth 100000 in
theorem lk126_25 : xAt kT126 25 (.bipush 16) 27 := ⟨2, rfl, Or.inr rfl, rfl⟩
set_option maxRecDepth 100000 in
theorem lk126_27 : xAt kT126 27 (.aload_n 0) 28 := ⟨1, rfl, Or.inr rfl, rfl⟩
set_option maxRecDepth 100000 in
theorem lk126_28 : xAt kT126 28 (.getfield 60) 31 := ⟨3, rfl, Or.inr rfl, rfl⟩
set_option maxRecDepth 100000 in
theorem lk126_31 : xAt kT126 31 (.iadd) 32 := ⟨1, rfl, Or.inr rfl, rfl⟩
set_option maxRecDepth 100000 in
theorem lk126_32 : xAt kT126 32 (.invokevirtual 226) 35 := ⟨3, rfl, Or.inr rfl, rfl⟩
set_option maxRecDepth 100000 in
theorem lk126_35 : xAt kT126 35 (.return_) 36 := ⟨1, rfl, Or.inr rfl, rfl⟩
set_option maxRecDepth 100000 in
theorem lk150_0 : xAt kT150 0 (.aload_n 0) 1 := ⟨1, rfl, Or.inr rfl, rfl⟩
set_option maxRecDepth 100000 in
theorem lk150_1 : xAt kT150 1 (.getfield 72) 4 := ⟨3, rfl, Or.inr rfl, rfl⟩
set_option maxRecDepth 100000 in
theorem lk150_4 : xAt kT150 4 (.getfield 106) 7 := ⟨3, rfl, Or.inr rfl, rfl⟩
set_option maxRecDepth 100000 in
theorem lk150_7 : xAt kT150 7 (.aload_n 0) 8 := ⟨1, rfl, Or.inr rfl, rfl⟩
set_option maxRecDepth 100000 in
theorem lk150_8 : xAt kT150 8 (.getfield 72) 11 := ⟨3, rfl, Or.inr rfl, rfl⟩
set_option maxRecDepth 100000 in
theorem lk150_11 : xAt kT150 11 (.getfield 106) 14 := ⟨3, rfl, Or.inr rfl, rfl⟩
set_option maxRecDepth 100000 in
theorem lk150_14 : xAt kT150 14 (.bipush 7) 16 := ⟨2, rfl, Or.inr rfl, rfl⟩
set_option maxRecDepth 100000 in
theorem lk150_16 : xAt kT150 16 (.ishr) 17 := ⟨1, rfl, Or.inr rfl, rfl⟩
set_option maxRecDepth 100000 in
theorem lk150_17 : xAt kT150 17 (.ior) 18 := ⟨1, rfl, Or.inr rfl, rfl⟩
set_option maxRecDepth 100000 in
theorem lk150_18 : xAt kT150 18 (.aload_n 0) 19 := ⟨1, rfl, Or.inr rfl, rfl⟩
set_option maxRecDepth 100000 in
theorem lk150_19 : xAt kT150 19 (.getfield 72) 22 := ⟨3, rfl, Or.inr rfl, rfl⟩
set_option maxRecDepth 100000 in
theorem lk150_22 : xAt kT150 22 (.getfield 106) 25 := ⟨3, rfl, Or.inr rfl, rfl⟩
set_option maxRecDepth 100000 in
theorem lk150_25 : xAt kT150 25 (.bipush 14) 27 := ⟨2, rfl, Or.inr rfl, rfl⟩
set_option maxRecDepth 100000 in
theorem lk150_27 : xAt kT150 27 (.ishr) 28 := ⟨1, rfl, Or.inr rfl, rfl⟩
set_option maxRecDepth 100000 in
theorem lk150_28 : xAt kT150 28 (.ior) 29 := ⟨1, rfl, Or.inr rfl, rfl⟩
set_option maxRecDepth 100000 in
theorem lk150_29 : xAt kT150 29 (.bipush 127) 31 := ⟨2, rfl, Or.inr rfl, rfl⟩
set_option maxRecDepth 100000 in
theorem lk150_31 : xAt kT150 31 (.iand) 32 := ⟨1, rfl, Or.inr rfl, rfl⟩
set_option maxRecDepth 100000 in
theorem lk150_32 : xAt kT150 32 (.iconst 1) 33 := ⟨1, rfl, Or.inr rfl, rfl⟩
set_option maxRecDepth 100000 in
theorem lk150_33 : xAt kT150 33 (.aload_n 0) 34 := ⟨1, rfl, Or.inr rfl, rfl⟩
set_option maxRecDepth 100000 in
theorem lk150_34 : xAt kT150 34 (.getfield 60) 37 := ⟨3, rfl, Or.inr rfl, rfl⟩
set_option maxRecDepth 100000 in
theorem lk150_37 : xAt kT150 37 (.ishl) 38 := ⟨1, rfl, Or.inr rfl, rfl⟩
set_option maxRecDepth 100000 in
theorem lk150_38 : xAt kT150 38 (.iconst (-1)) 39 := ⟨1, rfl, Or.inr rfl, rfl⟩
set_option maxRecDepth 100000 in
theorem lk150_39 : xAt kT150 39 (.ixor) 40 := ⟨1, rfl, Or.inr rfl, rfl⟩
set_option maxRecDepth 100000 in
theorem lk150_40 : xAt kT150 40 (.iand) 41 := ⟨1, rfl, Or.inr rfl, rfl⟩
set_option maxRecDepth 100000 in
theorem lk150_41 : xAt kT150 41 (.ireturn) 42 := ⟨1, rfl, Or.inr rfl, rfl⟩
set_option maxRecDepth 100000 in
theorem lk127_0 : xAt kT127 0 (.aload_n 0) 1 := ⟨1, rfl, Or.inr rfl, rfl⟩
set_option maxRecDepth 100000 in
theorem lk127_1 : xAt kT127 1 (.getfield 21) 4 := ⟨3, rfl, Or.inr rfl, rfl⟩
set_option maxRecDepth 100000 in
theorem lk127_4 : xAt kT127 4 (.getfield 112) 7 := ⟨3, rfl, Or.inr rfl, rfl⟩
set_option maxRecDepth 100000 in
theorem lk127_7 : xAt kT127 7 (.iconst (-1)) 8 := ⟨1, rfl, Or.inr rfl, rfl⟩
set_option maxRecDepth 100000 in
theorem lk127_8 : xAt kT127 8 (.if_icmp .eq 31) 11 := ⟨3, rfl, Or.inr rfl, rfl⟩
set_option maxRecDepth 100000 in
theorem lk127_11 : xAt kT127 11 (.aload_n 0) 12 := ⟨1, rfl, Or.inr rfl, rfl⟩
set_option maxRecDepth 100000 in
theorem lk127_12 : xAt kT127 12 (.getfield 63) 15 := ⟨3, rfl, Or.inr rfl, rfl⟩
set_option maxRecDepth 100000 in
theorem lk127_15 : xAt kT127 15 (.getfield 241) 18 := ⟨3, rfl, Or.inr rfl, rfl⟩
set_option maxRecDepth 100000 in
theorem lk127_18 : xAt kT127 18 (.aload_n 0) 19 := ⟨1, rfl, Or.inr rfl, rfl⟩
set_option maxRecDepth 100000 in
theorem lk127_19 : xAt kT127 19 (.getfield 21) 22 := ⟨3, rfl, Or.inr rfl, rfl⟩
set_option maxRecDepth 100000 in
theorem lk127_22 : xAt kT127 22 (.getfield 453) 25 := ⟨3, rfl, Or.inr rfl, rfl⟩
set_option maxRecDepth 100000 in
theorem lk127_25 : xAt kT127 25 (.isub) 26 := ⟨1, rfl, Or.inr rfl, rfl⟩
set_option maxRecDepth 100000 in
theorem lk127_26 : xAt kT127 26 (.bipush 50) 28 := ⟨2, rfl, Or.inr rfl, rfl⟩
set_option maxRecDepth 100000 in
theorem lk127_28 : xAt kT127 28 (.if_icmp .le 11) 31 := ⟨3, rfl, Or.inr rfl, rfl⟩
set_option maxRecDepth 100000 in
theorem lk127_31 : xAt kT127 31 (.aload_n 0) 32 := ⟨1, rfl, Or.inr rfl, rfl⟩
set_option maxRecDepth 100000 in
theorem lk127_32 : xAt kT127 32 (.getfield 21) 35 := ⟨3, rfl, Or.inr rfl, rfl⟩
set_option maxRecDepth 100000 in
theorem lk127_35 : xAt kT127 35 (.iconst (-1)) 36 := ⟨1, rfl, Or.inr rfl, rfl⟩
set_option maxRecDepth 100000 in
theorem lk127_36 : xAt kT127 36 (.putfield 112) 39 := ⟨3, rfl, Or.inr rfl, rfl⟩
set_option maxRecDepth 100000 in
theorem lk127_39 : xAt kT127 39 (.aload_n 0) 40 := ⟨1, rfl, Or.inr rfl, rfl⟩
set_option maxRecDepth 100000 in
theorem lk127_40 : xAt kT127 40 (.getfield 63) 43 := ⟨3, rfl, Or.inr rfl, rfl⟩
set_option maxRecDepth 100000 in
theorem lk127_43 : xAt kT127 43 (.aload_n 0) 44 := ⟨1, rfl, Or.inr rfl, rfl⟩
set_option maxRecDepth 100000 in
theorem lk127_44 : xAt kT127 44 (.getfield 60) 47 := ⟨3, rfl, Or.inr rfl, rfl⟩
set_option maxRecDepth 100000 in
theorem lk127_47 : xAt kT127 47 (.aload_n 0) 48 := ⟨1, rfl, Or.inr rfl, rfl⟩
set_option maxRecDepth 100000 in
theorem lk127_48 : xAt kT127 48 (.getfield 63) 51 := ⟨3, rfl, Or.inr rfl, rfl⟩
set_option maxRecDepth 100000 in
theorem lk127_51 : xAt kT127 51 (.getfield 241) 54 := ⟨3, rfl, Or.inr rfl, rfl⟩
set_option maxRecDepth 100000 in
theorem lk127_54 : xAt kT127 54 (.bipush 10) 56 := ⟨2, rfl, Or.inr rfl, rfl⟩
set_option maxRecDepth 100000 in
theorem lk127_56 : xAt kT127 56 (.iadd) 57 := ⟨1, rfl, Or.inr rfl, rfl⟩
set_option maxRecDepth 100000 in
theorem lk127_57 : xAt kT127 57 (.invokevirtual 320) 60 := ⟨3, rfl, Or.inr rfl, rfl⟩
set_option maxRecDepth 100000 in
theorem lk127_60 : xAt kT127 60 (.aload_n 0) 61 := ⟨1, rfl, Or.inr rfl, rfl⟩
set_option maxRecDepth 100000 in
theorem lk127_61 : xAt kT127 61 (.getfield 21) 64 := ⟨3, rfl, Or.inr rfl, rfl⟩
set_option maxRecDepth 100000 in
theorem lk127_64 : xAt kT127 64 (.dup) 65 := ⟨1, rfl, Or.inr rfl, rfl⟩
set_option maxRecDepth 100000 in
theorem lk127_65 : xAt kT127 65 (.getfield 118) 68 := ⟨3, rfl, Or.inr rfl, rfl⟩
set_option maxRecDepth 100000 in
theorem lk127_68 : xAt kT127 68 (.iconst 1) 69 := ⟨1, rfl, Or.inr rfl, rfl⟩
set_option maxRecDepth 100000 in
theorem lk127_69 : xAt kT127 69 (.iadd) 70 := ⟨1, rfl, Or.inr rfl, rfl⟩
set_option maxRecDepth 100000 in
theorem lk127_70 : xAt kT127 70 (.putfield 118) 73 := ⟨3, rfl, Or.inr rfl, rfl⟩
set_option maxRecDepth 100000 in
theorem lk127_73 : xAt kT127 73 (.aload_n 0) 74 := ⟨1, rfl, Or.inr rfl, rfl⟩
set_option maxRecDepth 100000 in
theorem lk127_74 : xAt kT127 74 (.invokevirtual 373) 77 := ⟨3, rfl, Or.inr rfl, rfl⟩
set_option maxRecDepth 100000 in
theorem lk127_77 : xAt kT127 77 (.istore_n 1) 78 := ⟨1, rfl, Or.inr rfl, rfl⟩
set_option maxRecDepth 100000 in
theorem lk127_78 : xAt kT127 78 (.iconst 0) 79 := ⟨1, rfl, Or.inr rfl, rfl⟩
set_option maxRecDepth 100000 in
theorem lk127_79 : xAt kT127 79 (.istore_n 2) 80 := ⟨1, rfl, Or.inr rfl, rfl⟩
set_option maxRecDepth 100000 in
theorem lk127_80 : xAt kT127 80 (.iload_n 2) 81 := ⟨1, rfl, Or.inr rfl, rfl⟩
set_option maxRecDepth 100000 in
theorem lk127_81 : xAt kT127 81 (.bipush 7) 83 := ⟨2, rfl, Or.inr rfl, rfl⟩
set_option maxRecDepth 100000 in
theorem lk127_83 : xAt kT127 83 (.if_icmp .ge 91) 86 := ⟨3, rfl, Or.inr rfl, rfl⟩
set_option maxRecDepth 100000 in
theorem lk127_86 : xAt kT127 86 (.iload_n 1) 87 := ⟨1, rfl, Or.inr rfl, rfl⟩
set_option maxRecDepth 100000 in
theorem lk127_87 : xAt kT127 87 (.iload_n 2) 88 := ⟨1, rfl, Or.inr rfl, rfl⟩
set_option maxRecDepth 100000 in
theorem lk127_88 : xAt kT127 88 (.ishr) 89 := ⟨1, rfl, Or.inr rfl, rfl⟩
set_option maxRecDepth 100000 in
theorem lk127_89 : xAt kT127 89 (.iconst 1) 90 := ⟨1, rfl, Or.inr rfl, rfl⟩
set_option maxRecDepth 100000 in
theorem lk127_90 : xAt kT127 90 (.iand) 91 := ⟨1, rfl, Or.inr rfl, rfl⟩
set_option maxRecDepth 100000 in
theorem lk127_91 : xAt kT127 91 (.ifCond .eq 67) 94 := ⟨3, rfl, Or.inr rfl, rfl⟩
set_option maxRecDepth 100000 in
theorem lk127_94 : xAt kT127 94 (.aload_n 0) 95 := ⟨1, rfl, Or.inr rfl, rfl⟩
set_option maxRecDepth 100000 in
theorem lk127_95 : xAt kT127 95 (.getfield 21) 98 := ⟨3, rfl, Or.inr rfl, rfl⟩
set_option maxRecDepth 100000 in
theorem lk127_98 : xAt kT127 98 (.getfield 383) 101 := ⟨3, rfl, Or.inr rfl, rfl⟩
set_option maxRecDepth 100000 in
theorem lk127_101 : xAt kT127 101 (.iload_n 2) 102 := ⟨1, rfl, Or.inr rfl, rfl⟩
set_option maxRecDepth 100000 in
theorem lk127_102 : xAt kT127 102 (.iaload) 103 := ⟨1, rfl, Or.inr rfl, rfl⟩
set_option maxRecDepth 100000 in
theorem lk127_103 : xAt kT127 103 (.ifCond .le 55) 106 := ⟨3, rfl, Or.inr rfl, rfl⟩
set_option maxRecDepth 100000 in
theorem lk127_106 : xAt kT127 106 (.aload_n 0) 107 := ⟨1, rfl, Or.inr rfl, rfl⟩
set_option maxRecDepth 100000 in
theorem lk127_107 : xAt kT127 107 (.getfield 21) 110 := ⟨3, rfl, Or.inr rfl, rfl⟩
set_option maxRecDepth 100000 in
theorem lk127_110 : xAt kT127 110 (.getfield 456) 113 := ⟨3, rfl, Or.inr rfl, rfl⟩
set_option maxRecDepth 100000 in
theorem lk127_113 : xAt kT127 113 (.iload_n 2) 114 := ⟨1, rfl, Or.inr rfl, rfl⟩
set_option maxRecDepth 100000 in
theorem lk127_114 : xAt kT127 114 (.baload) 115 := ⟨1, rfl, Or.inr rfl, rfl⟩
set_option maxRecDepth 100000 in
theorem lk127_115 : xAt kT127 115 (.ifCond .ne 43) 118 := ⟨3, rfl, Or.inr rfl, rfl⟩
set_option maxRecDepth 100000 in
theorem lk127_118 : xAt kT127 118 (.aload_n 0) 119 := ⟨1, rfl, Or.inr rfl, rfl⟩
set_option maxRecDepth 100000 in
theorem lk127_119 : xAt kT127 119 (.getfield 21) 122 := ⟨3, rfl, Or.inr rfl, rfl⟩
set_option maxRecDepth 100000 in
theorem lk127_122 : xAt kT127 122 (.getfield 383) 125 := ⟨3, rfl, Or.inr rfl, rfl⟩
set_option maxRecDepth 100000 in
theorem lk127_125 : xAt kT127 125 (.iload_n 2) 126 := ⟨1, rfl, Or.inr rfl, rfl⟩
set_option maxRecDepth 100000 in
theorem lk127_126 : xAt kT127 126 (.iconst 0) 127 := ⟨1, rfl, Or.inr rfl, rfl⟩
set_option maxRecDepth 100000 in
theorem lk127_127 : xAt kT127 127 (.iastore) 128 := ⟨1, rfl, Or.inr rfl, rfl⟩
set_option maxRecDepth 100000 in
theorem lk127_128 : xAt kT127 128 (.aload_n 0) 129 := ⟨1, rfl, Or.inr rfl, rfl⟩
set_option maxRecDepth 100000 in
theorem lk127_129 : xAt kT127 129 (.getfield 21) 132 := ⟨3, rfl, Or.inr rfl, rfl⟩
set_option maxRecDepth 100000 in
theorem lk127_132 : xAt kT127 132 (.getfield 393) 135 := ⟨3, rfl, Or.inr rfl, rfl⟩
set_option maxRecDepth 100000 in
theorem lk127_135 : xAt kT127 135 (.iload_n 2) 136 := ⟨1, rfl, Or.inr rfl, rfl⟩
set_option maxRecDepth 100000 in
theorem lk127_136 : xAt kT127 136 (.iconst 1) 137 := ⟨1, rfl, Or.inr rfl, rfl⟩
set_option maxRecDepth 100000 in
theorem lk127_137 : xAt kT127 137 (.bastore) 138 := ⟨1, rfl, Or.inr rfl, rfl⟩
set_option maxRecDepth 100000 in
theorem lk127_138 : xAt kT127 138 (.aload_n 0) 139 := ⟨1, rfl, Or.inr rfl, rfl⟩
set_option maxRecDepth 100000 in
theorem lk127_139 : xAt kT127 139 (.getfield 21) 142 := ⟨3, rfl, Or.inr rfl, rfl⟩
set_option maxRecDepth 100000 in
theorem lk127_142 : xAt kT127 142 (.getfield 380) 145 := ⟨3, rfl, Or.inr rfl, rfl⟩
set_option maxRecDepth 100000 in
theorem lk127_145 : xAt kT127 145 (.iload_n 2) 146 := ⟨1, rfl, Or.inr rfl, rfl⟩
set_option maxRecDepth 100000 in
theorem lk127_146 : xAt kT127 146 (.aload_n 0) 147 := ⟨1, rfl, Or.inr rfl, rfl⟩
set_option maxRecDepth 100000 in
theorem lk127_147 : xAt kT127 147 (.getfield 21) 150 := ⟨3, rfl, Or.inr rfl, rfl⟩
set_option maxRecDepth 100000 in
theorem lk127_150 : xAt kT127 150 (.getfield 459) 153 := ⟨3, rfl, Or.inr rfl, rfl⟩
set_option maxRecDepth 100000 in
theorem lk127_153 : xAt kT127 153 (.iload_n 2) 154 := ⟨1, rfl, Or.inr rfl, rfl⟩
set_option maxRecDepth 100000 in
theorem lk127_154 : xAt kT127 154 (.iaload) 155 := ⟨1, rfl, Or.inr rfl, rfl⟩
set_option maxRecDepth 100000 in
theorem lk127_155 : xAt kT127 155 (.iconst 1) 156 := ⟨1, rfl, Or.inr rfl, rfl⟩
set_option maxRecDepth 100000 in
theorem lk127_156 : xAt kT127 156 (.iadd) 157 := ⟨1, rfl, Or.inr rfl, rfl⟩
set_option maxRecDepth 100000 in
theorem lk127_157 : xAt kT127 157 (.iastore) 158 := ⟨1, rfl, Or.inr rfl, rfl⟩
set_option maxRecDepth 100000 in
theorem lk127_158 : xAt kT127 158 (.aload_n 0) 159 := ⟨1, rfl, Or.inr rfl, rfl⟩
set_option maxRecDepth 100000 in
theorem lk127_159 : xAt kT127 159 (.getfield 21) 162 := ⟨3, rfl, Or.inr rfl, rfl⟩
set_option maxRecDepth 100000 in
theorem lk127_162 : xAt kT127 162 (.getfield 456) 165 := ⟨3, rfl, Or.inr rfl, rfl⟩
set_option maxRecDepth 100000 in
theorem lk127_165 : xAt kT127 165 (.iload_n 2) 166 := ⟨1, rfl, Or.inr rfl, rfl⟩
set_option maxRecDepth 100000 in
theorem lk127_166 : xAt kT127 166 (.iconst 0) 167 := ⟨1, rfl, Or.inr rfl, rfl⟩
set_option maxRecDepth 100000 in
theorem lk127_167 : xAt kT127 167 (.bastore) 168 := ⟨1, rfl, Or.inr rfl, rfl⟩
set_option maxRecDepth 100000 in
theorem lk127_168 : xAt kT127 168 (.iinc 2 1) 171 := ⟨3, rfl, Or.inr rfl, rfl⟩
set_option maxRecDepth 100000 in
theorem lk127_171 : xAt kT127 171 (.goto (-91)) 174 := ⟨3, rfl, Or.inr rfl, rfl⟩
set_option maxRecDepth 100000 in
theorem lk127_174 : xAt kT127 174 (.aload_n 0) 175 := ⟨1, rfl, Or.inr rfl, rfl⟩
set_option maxRecDepth 100000 in
theorem lk127_175 : xAt kT127 175 (.getfield 21) 178 := ⟨3, rfl, Or.inr rfl, rfl⟩
set_option maxRecDepth 100000 in
theorem lk127_178 : xAt kT127 178 (.getfield 459) 181 := ⟨3, rfl, Or.inr rfl, rfl⟩
set_option maxRecDepth 100000 in
theorem lk127_181 : xAt kT127 181 (.aload_n 0) 182 := ⟨1, rfl, Or.inr rfl, rfl⟩
set_option maxRecDepth 100000 in
theorem lk127_182 : xAt kT127 182 (.getfield 60) 185 := ⟨3, rfl, Or.inr rfl, rfl⟩
set_option maxRecDepth 100000 in
theorem lk127_185 : xAt kT127 185 (.aload_n 0) 186 := ⟨1, rfl, Or.inr rfl, rfl⟩
set_option maxRecDepth 100000 in
theorem lk127_186 : xAt kT127 186 (.getfield 72) 189 := ⟨3, rfl, Or.inr rfl, rfl⟩
set_option maxRecDepth 100000 in
theorem lk127_189 : xAt kT127 189 (.getfield 97) 192 := ⟨3, rfl, Or.inr rfl, rfl⟩
set_option maxRecDepth 100000 in
theorem lk127_192 : xAt kT127 192 (.iastore) 193 := ⟨1, rfl, Or.inr rfl, rfl⟩
set_option maxRecDepth 100000 in
theorem lk127_193 : xAt kT127 193 (.aload_n 0) 194 := ⟨1, rfl, Or.inr rfl, rfl⟩
set_option maxRecDepth 100000 in
theorem lk127_194 : xAt kT127 194 (.getfield 21) 197 := ⟨3, rfl, Or.inr rfl, rfl⟩
set_option maxRecDepth 100000 in
theorem lk127_197 : xAt kT127 197 (.getfield 431) 200 := ⟨3, rfl, Or.inr rfl, rfl⟩
set_option maxRecDepth 100000 in
theorem lk127_200 : xAt kT127 200 (.aload_n 0) 201 := ⟨1, rfl, Or.inr rfl, rfl⟩
set_option maxRecDepth 100000 in
theorem lk127_201 : xAt kT127 201 (.getfield 60) 204 := ⟨3, rfl, Or.inr rfl, rfl⟩
set_option maxRecDepth 100000 in
theorem lk127_204 : xAt kT127 204 (.aload_n 0) 205 := ⟨1, rfl, Or.inr rfl, rfl⟩
set_option maxRecDepth 100000 in
theorem lk127_205 : xAt kT127 205 (.getfield 63) 208 := ⟨3, rfl, Or.inr rfl, rfl⟩
set_option maxRecDepth 100000 in
theorem lk127_208 : xAt kT127 208 (.getfield 241) 211 := ⟨3, rfl, Or.inr rfl, rfl⟩
set_option maxRecDepth 100000 in
theorem lk127_211 : xAt kT127 211 (.iastore) 212 := ⟨1, rfl, Or.inr rfl, rfl⟩
set_option maxRecDepth 100000 in
theorem lk127_212 : xAt kT127 212 (.aload_n 0) 213 := ⟨1, rfl, Or.inr rfl, rfl⟩
set_option maxRecDepth 100000 in
theorem lk127_213 : xAt kT127 213 (.getfield 21) 216 := ⟨3, rfl, Or.inr rfl, rfl⟩
set_option maxRecDepth 100000 in
theorem lk127_216 : xAt kT127 216 (.getfield 462) 219 := ⟨3, rfl, Or.inr rfl, rfl⟩
set_option maxRecDepth 100000 in
theorem lk127_219 : xAt kT127 219 (.aload_n 0) 220 := ⟨1, rfl, Or.inr rfl, rfl⟩
set_option maxRecDepth 100000 in
theorem lk127_220 : xAt kT127 220 (.getfield 60) 223 := ⟨3, rfl, Or.inr rfl, rfl⟩
set_option maxRecDepth 100000 in
theorem lk127_223 : xAt kT127 223 (.aload_n 0) 224 := ⟨1, rfl, Or.inr rfl, rfl⟩
set_option maxRecDepth 100000 in
theorem lk127_224 : xAt kT127 224 (.getfield 21) 227 := ⟨3, rfl, Or.inr rfl, rfl⟩
set_option maxRecDepth 100000 in
theorem lk127_227 : xAt kT127 227 (.getfield 118) 230 := ⟨3, rfl, Or.inr rfl, rfl⟩
set_option maxRecDepth 100000 in
theorem lk127_230 : xAt kT127 230 (.iastore) 231 := ⟨1, rfl, Or.inr rfl, rfl⟩
set_option maxRecDepth 100000 in
theorem lk127_231 : xAt kT127 231 (.return_) 232 := ⟨1, rfl, Or.inr rfl, rfl⟩
set_option maxRecDepth 100000 in
theorem lk165_0 : xAt kT165 0 (.aload_n 0) 1 := ⟨1, rfl, Or.inr rfl, rfl⟩
set_option maxRecDepth 100000 in
theorem lk165_1 : xAt kT165 1 (.getfield 115) 4 := ⟨3, rfl, Or.inr rfl, rfl⟩
set_option maxRecDepth 100000 in
theorem lk165_4 : xAt kT165 4 (.ifCond .ne 42) 7 := ⟨3, rfl, Or.inr rfl, rfl⟩
set_option maxRecDepth 100000 in
theorem lk165_7 : xAt kT165 7 (.aload_n 0) 8 := ⟨1, rfl, Or.inr rfl, rfl⟩
set_option maxRecDepth 100000 in
theorem lk165_8 : xAt kT165 8 (.iconst 1) 9 := ⟨1, rfl, Or.inr rfl, rfl⟩
set_option maxRecDepth 100000 in
theorem lk165_9 : xAt kT165 9 (.putfield 115) 12 := ⟨3, rfl, Or.inr rfl, rfl⟩
set_option maxRecDepth 100000 in
theorem lk165_12 : xAt kT165 12 (.aload_n 0) 13 := ⟨1, rfl, Or.inr rfl, rfl⟩
set_option maxRecDepth 100000 in
theorem lk165_13 : xAt kT165 13 (.getfield 63) 16 := ⟨3, rfl, Or.inr rfl, rfl⟩
set_option maxRecDepth 100000 in
theorem lk165_16 : xAt kT165 16 (.bipush 16) 18 := ⟨2, rfl, Or.inr rfl, rfl⟩
set_option maxRecDepth 100000 in
theorem lk165_18 : xAt kT165 18 (.aload_n 0) 19 := ⟨1, rfl, Or.inr rfl, rfl⟩
set_option maxRecDepth 100000 in
theorem lk165_19 : xAt kT165 19 (.getfield 60) 22 := ⟨3, rfl, Or.inr rfl, rfl⟩
set_option maxRecDepth 100000 in
theorem lk165_22 : xAt kT165 22 (.iadd) 23 := ⟨1, rfl, Or.inr rfl, rfl⟩
set_option maxRecDepth 100000 in
theorem lk165_23 : xAt kT165 23 (.aload_n 0) 24 := ⟨1, rfl, Or.inr rfl, rfl⟩
set_option maxRecDepth 100000 in
theorem lk165_24 : xAt kT165 24 (.getfield 63) 27 := ⟨3, rfl, Or.inr rfl, rfl⟩
set_option maxRecDepth 100000 in
theorem lk165_27 : xAt kT165 27 (.getfield 241) 30 := ⟨3, rfl, Or.inr rfl, rfl⟩
set_option maxRecDepth 100000 in
theorem lk165_30 : xAt kT165 30 (.aload_n 0) 31 := ⟨1, rfl, Or.inr rfl, rfl⟩
set_option maxRecDepth 100000 in
theorem lk165_31 : xAt kT165 31 (.getfield 63) 34 := ⟨3, rfl, Or.inr rfl, rfl⟩
set_option maxRecDepth 100000 in
theorem lk165_34 : xAt kT165 34 (.getfield 317) 37 := ⟨3, rfl, Or.inr rfl, rfl⟩
set_option maxRecDepth 100000 in
theorem lk165_37 : xAt kT165 37 (.aload_n 0) 38 := ⟨1, rfl, Or.inr rfl, rfl⟩
set_option maxRecDepth 100000 in
theorem lk165_38 : xAt kT165 38 (.getfield 60) 41 := ⟨3, rfl, Or.inr rfl, rfl⟩
set_option maxRecDepth 100000 in
theorem lk165_41 : xAt kT165 41 (.iaload) 42 := ⟨1, rfl, Or.inr rfl, rfl⟩
set_option maxRecDepth 100000 in
theorem lk165_42 : xAt kT165 42 (.iadd) 43 := ⟨1, rfl, Or.inr rfl, rfl⟩
set_option maxRecDepth 100000 in
theorem lk165_43 : xAt kT165 43 (.invokevirtual 320) 46 := ⟨3, rfl, Or.inr rfl, rfl⟩
set_option maxRecDepth 100000 in
theorem lk165_46 : xAt kT165 46 (.return_) 47 := ⟨1, rfl, Or.inr rfl, rfl⟩
set_option maxRecDepth 100000 in
theorem lk156_0 : xAt kT156 0 (.aload_n 0) 1 := ⟨1, rfl, Or.inr rfl, rfl⟩
set_option maxRecDepth 100000 in
theorem lk156_1 : xAt kT156 1 (.iload_n 1) 2 := ⟨1, rfl, Or.inr rfl, rfl⟩
set_option maxRecDepth 100000 in
theorem lk156_2 : xAt kT156 2 (.putfield 88) 5 := ⟨3, rfl, Or.inr rfl, rfl⟩
set_option maxRecDepth 100000 in
theorem lk156_5 : xAt kT156 5 (.aload_n 0) 6 := ⟨1, rfl, Or.inr rfl, rfl⟩
set_option maxRecDepth 100000 in
theorem lk156_6 : xAt kT156 6 (.iload_n 2) 7 := ⟨1, rfl, Or.inr rfl, rfl⟩
set_option maxRecDepth 100000 in
theorem lk156_7 : xAt kT156 7 (.putfield 43) 10 := ⟨3, rfl, Or.inr rfl, rfl⟩
set_option maxRecDepth 100000 in
theorem lk156_10 : xAt kT156 10 (.aload_n 0) 11 := ⟨1, rfl, Or.inr rfl, rfl⟩
set_option maxRecDepth 100000 in
theorem lk156_11 : xAt kT156 11 (.getfield 12) 14 := ⟨3, rfl, Or.inr rfl, rfl⟩
set_option maxRecDepth 100000 in
theorem lk156_14 : xAt kT156 14 (.aload_n 0) 15 := ⟨1, rfl, Or.inr rfl, rfl⟩
set_option maxRecDepth 100000 in
theorem lk156_15 : xAt kT156 15 (.getfield 88) 18 := ⟨3, rfl, Or.inr rfl, rfl⟩
set_option maxRecDepth 100000 in
theorem lk156_18 : xAt kT156 18 (.aload_n 0) 19 := ⟨1, rfl, Or.inr rfl, rfl⟩
set_option maxRecDepth 100000 in
theorem lk156_19 : xAt kT156 19 (.getfield 43) 22 := ⟨3, rfl, Or.inr rfl, rfl⟩
set_option maxRecDepth 100000 in
theorem lk156_22 : xAt kT156 22 (.invokevirtual 314) 25 := ⟨3, rfl, Or.inr rfl, rfl⟩
set_option maxRecDepth 100000 in
theorem lk156_25 : xAt kT156 25 (.aload_n 0) 26 := ⟨1, rfl, Or.inr rfl, rfl⟩
set_option maxRecDepth 100000 in
theorem lk156_26 : xAt kT156 26 (.invokevirtual 323) 29 := ⟨3, rfl, Or.inr rfl, rfl⟩
set_option maxRecDepth 100000 in
theorem lk156_29 : xAt kT156 29 (.return_) 30 := ⟨1, rfl, Or.inr rfl, rfl⟩
set_option maxRecDepth 100000 in
theorem lk188_0 : xAt kT188 0 (.aload_n 0) 1 := ⟨1, rfl, Or.inr rfl, rfl⟩
set_option maxRecDepth 100000 in
theorem lk188_1 : xAt kT188 1 (.getfield 24) 4 := ⟨3, rfl, Or.inr rfl, rfl⟩
set_option maxRecDepth 100000 in
theorem lk188_4 : xAt kT188 4 (.iload_n 1) 5 := ⟨1, rfl, Or.inr rfl, rfl⟩
set_option maxRecDepth 100000 in
theorem lk188_5 : xAt kT188 5 (.aload_n 0) 6 := ⟨1, rfl, Or.inr rfl, rfl⟩
set_option maxRecDepth 100000 in
theorem lk188_6 : xAt kT188 6 (.getfield 24) 9 := ⟨3, rfl, Or.inr rfl, rfl⟩
set_option maxRecDepth 100000 in
theorem lk188_9 : xAt kT188 9 (.iload_n 1) 10 := ⟨1, rfl, Or.inr rfl, rfl⟩
set_option maxRecDepth 100000 in
theorem lk188_10 : xAt kT188 10 (.laload) 11 := ⟨1, rfl, Or.inr rfl, rfl⟩
set_option maxRecDepth 100000 in
theorem lk188_11 : xAt kT188 11 (.ldc2_w 104) 14 := ⟨3, rfl, Or.inr rfl, rfl⟩
set_option maxRecDepth 100000 in
theorem lk188_14 : xAt kT188 14 (.lmul) 15 := ⟨1, rfl, Or.inr rfl, rfl⟩
set_option maxRecDepth 100000 in
theorem lk188_15 : xAt kT188 15 (.ldc2_w 106) 18 := ⟨3, rfl, Or.inr rfl, rfl⟩
set_option maxRecDepth 100000 in
theorem lk188_18 : xAt kT188 18 (.ladd) 19 := ⟨1, rfl, Or.inr rfl, rfl⟩
set_option maxRecDepth 100000 in
theorem lk188_19 : xAt kT188 19 (.lastore) 20 := ⟨1, rfl, Or.inr rfl, rfl⟩
set_option maxRecDepth 100000 in
theorem lk188_20 : xAt kT188 20 (.aload_n 0) 21 := ⟨1, rfl, Or.inr rfl, rfl⟩
set_option maxRecDepth 100000 in
theorem lk188_21 : xAt kT188 21 (.iload_n 1) 22 := ⟨1, rfl, Or.inr rfl, rfl⟩
set_option maxRecDepth 100000 in
theorem lk188_22 : xAt kT188 22 (.aload_n 0) 23 := ⟨1, rfl, Or.inr rfl, rfl⟩
set_option maxRecDepth 100000 in
theorem lk188_23 : xAt kT188 23 (.getfield 77) 26 := ⟨3, rfl, Or.inr rfl, rfl⟩
set_option maxRecDepth 100000 in
theorem lk188_26 : xAt kT188 26 (.bipush 50) 28 := ⟨2, rfl, Or.inr rfl, rfl⟩
set_option maxRecDepth 100000 in
theorem lk188_28 : xAt kT188 28 (.iadd) 29 := ⟨1, rfl, Or.inr rfl, rfl⟩
set_option maxRecDepth 100000 in
theorem lk188_29 : xAt kT188 29 (.aload_n 0) 30 := ⟨1, rfl, Or.inr rfl, rfl⟩
set_option maxRecDepth 100000 in
theorem lk188_30 : xAt kT188 30 (.getfield 24) 33 := ⟨3, rfl, Or.inr rfl, rfl⟩
set_option maxRecDepth 100000 in
theorem lk188_33 : xAt kT188 33 (.iload_n 1) 34 := ⟨1, rfl, Or.inr rfl, rfl⟩
set_option maxRecDepth 100000 in
theorem lk188_34 : xAt kT188 34 (.laload) 35 := ⟨1, rfl, Or.inr rfl, rfl⟩
set_option maxRecDepth 100000 in
theorem lk188_35 : xAt kT188 35 (.bipush 33) 37 := ⟨2, rfl, Or.inr rfl, rfl⟩
set_option maxRecDepth 100000 in
theorem lk188_37 : xAt kT188 37 (.lushr) 38 := ⟨1, rfl, Or.inr rfl, rfl⟩
set_option maxRecDepth 100000 in
theorem lk188_38 : xAt kT188 38 (.ldc2_w 148) 41 := ⟨3, rfl, Or.inr rfl, rfl⟩
set_option maxRecDepth 100000 in
theorem lk188_41 : xAt kT188 41 (.lrem) 42 := ⟨1, rfl, Or.inr rfl, rfl⟩
set_option maxRecDepth 100000 in
theorem lk188_42 : xAt kT188 42 (.l2i) 43 := ⟨1, rfl, Or.inr rfl, rfl⟩
set_option maxRecDepth 100000 in
theorem lk188_43 : xAt kT188 43 (.iadd) 44 := ⟨1, rfl, Or.inr rfl, rfl⟩
set_option maxRecDepth 100000 in
theorem lk188_44 : xAt kT188 44 (.invokevirtual 150) 47 := ⟨3, rfl, Or.inr rfl, rfl⟩
set_option maxRecDepth 100000 in
theorem lk188_47 : xAt kT188 47 (.return_) 48 := ⟨1, rfl, Or.inr rfl, rfl⟩
set_option maxRecDepth 100000 in
theorem lk128_0 : xAt kT128 0 (.aload_n 0) 1 := ⟨1, rfl, Or.inr rfl, rfl⟩
set_option maxRecDepth 100000 in
theorem lk128_1 : xAt kT128 1 (.iconst 2) 2 := ⟨1, rfl, Or.inr rfl, rfl⟩
set_option maxRecDepth 100000 in
theorem lk128_2 : xAt kT128 2 (.putfield 85) 5 := ⟨3, rfl, Or.inr rfl, rfl⟩
set_option maxRecDepth 100000 in
theorem lk128_5 : xAt kT128 5 (.aload_n 0) 6 := ⟨1, rfl, Or.inr rfl, rfl⟩
set_option maxRecDepth 100000 in
theorem lk128_6 : xAt kT128 6 (.iconst (-1)) 7 := ⟨1, rfl, Or.inr rfl, rfl⟩
set_option maxRecDepth 100000 in
theorem lk128_7 : xAt kT128 7 (.putfield 47) 10 := ⟨3, rfl, Or.inr rfl, rfl⟩
set_option maxRecDepth 100000 in
theorem lk128_10 : xAt kT128 10 (.aload_n 0) 11 := ⟨1, rfl, Or.inr rfl, rfl⟩
set_option maxRecDepth 100000 in
theorem lk128_11 : xAt kT128 11 (.aload_n 0) 12 := ⟨1, rfl, Or.inr rfl, rfl⟩
set_option maxRecDepth 100000 in
theorem lk128_12 : xAt kT128 12 (.getfield 88) 15 := ⟨3, rfl, Or.inr rfl, rfl⟩
set_option maxRecDepth 100000 in
theorem lk128_15 : xAt kT128 15 (.iconst 1) 16 := ⟨1, rfl, Or.inr rfl, rfl⟩
set_option maxRecDepth 100000 in
theorem lk128_16 : xAt kT128 16 (.iadd) 17 := ⟨1, rfl, Or.inr rfl, rfl⟩
set_option maxRecDepth 100000 in
theorem lk128_17 : xAt kT128 17 (.aload_n 0) 18 := ⟨1, rfl, Or.inr rfl, rfl⟩
set_option maxRecDepth 100000 in
theorem lk128_18 : xAt kT128 18 (.getfield 60) 21 := ⟨3, rfl, Or.inr rfl, rfl⟩
set_option maxRecDepth 100000 in
theorem lk128_21 : xAt kT128 21 (.invokevirtual 425) 24 := ⟨3, rfl, Or.inr rfl, rfl⟩
set_option maxRecDepth 100000 in
theorem lk128_24 : xAt kT128 24 (.aload_n 0) 25 := ⟨1, rfl, Or.inr rfl, rfl⟩
set_option maxRecDepth 100000 in
theorem lk128_25 : xAt kT128 25 (.iconst 0) 26 := ⟨1, rfl, Or.inr rfl, rfl⟩
set_option maxRecDepth 100000 in
theorem lk128_26 : xAt kT128 26 (.putfield 109) 29 := ⟨3, rfl, Or.inr rfl, rfl⟩
set_option maxRecDepth 100000 in
theorem lk128_29 : xAt kT128 29 (.aload_n 0) 30 := ⟨1, rfl, Or.inr rfl, rfl⟩
set_option maxRecDepth 100000 in
theorem lk128_30 : xAt kT128 30 (.getfield 63) 33 := ⟨3, rfl, Or.inr rfl, rfl⟩
set_option maxRecDepth 100000 in
theorem lk128_33 : xAt kT128 33 (.aload_n 0) 34 := ⟨1, rfl, Or.inr rfl, rfl⟩
set_option maxRecDepth 100000 in
theorem lk128_34 : xAt kT128 34 (.getfield 60) 37 := ⟨3, rfl, Or.inr rfl, rfl⟩
set_option maxRecDepth 100000 in
theorem lk128_37 : xAt kT128 37 (.invokevirtual 251) 40 := ⟨3, rfl, Or.inr rfl, rfl⟩
set_option maxRecDepth 100000 in
theorem lk128_40 : xAt kT128 40 (.aload_n 0) 41 := ⟨1, rfl, Or.inr rfl, rfl⟩
set_option maxRecDepth 100000 in
theorem lk128_41 : xAt kT128 41 (.iconst 3) 42 := ⟨1, rfl, Or.inr rfl, rfl⟩
set_option maxRecDepth 100000 in
theorem lk128_42 : xAt kT128 42 (.aload_n 0) 43 := ⟨1, rfl, Or.inr rfl, rfl⟩
set_option maxRecDepth 100000 in
theorem lk128_43 : xAt kT128 43 (.getfield 88) 46 := ⟨3, rfl, Or.inr rfl, rfl⟩
set_option maxRecDepth 100000 in
theorem lk128_46 : xAt kT128 46 (.invokevirtual 441) 49 := ⟨3, rfl, Or.inr rfl, rfl⟩
set_option maxRecDepth 100000 in
theorem lk128_49 : xAt kT128 49 (.return_) 50 := ⟨1, rfl, Or.inr rfl, rfl⟩
set_option maxRecDepth 100000 in
theorem lk92_0 : xAt kT92 0 (.iconst 0) 1 := ⟨1, rfl, Or.inr rfl, rfl⟩
set_option maxRecDepth 100000 in
theorem lk92_1 : xAt kT92 1 (.istore 4) 3 := ⟨2, rfl, Or.inr rfl, rfl⟩
set_option maxRecDepth 100000 in
theorem lk92_3 : xAt kT92 3 (.iload_n 1) 4 := ⟨1, rfl, Or.inr rfl, rfl⟩
set_option maxRecDepth 100000 in
theorem lk92_4 : xAt kT92 4 (.istore 5) 6 := ⟨2, rfl, Or.inr rfl, rfl⟩
set_option maxRecDepth 100000 in
theorem lk92_6 : xAt kT92 6 (.iload 5) 8 := ⟨2, rfl, Or.inr rfl, rfl⟩
set_option maxRecDepth 100000 in
theorem lk92_8 : xAt kT92 8 (.iload_n 1) 9 := ⟨1, rfl, Or.inr rfl, rfl⟩
set_option maxRecDepth 100000 in
theorem lk92_9 : xAt kT92 9 (.iload_n 2) 10 := ⟨1, rfl, Or.inr rfl, rfl⟩
set_option maxRecDepth 100000 in
theorem lk92_10 : xAt kT92 10 (.iadd) 11 := ⟨1, rfl, Or.inr rfl, rfl⟩
set_option maxRecDepth 100000 in
theorem lk92_11 : xAt kT92 11 (.if_icmp .ge 38) 14 := ⟨3, rfl, Or.inr rfl, rfl⟩
set_option maxRecDepth 100000 in
theorem lk92_14 : xAt kT92 14 (.iload 5) 16 := ⟨2, rfl, Or.inr rfl, rfl⟩
set_option maxRecDepth 100000 in
theorem lk92_16 : xAt kT92 16 (.iload_n 3) 17 := ⟨1, rfl, Or.inr rfl, rfl⟩
set_option maxRecDepth 100000 in
theorem lk92_17 : xAt kT92 17 (.if_icmp .ge 32) 20 := ⟨3, rfl, Or.inr rfl, rfl⟩
set_option maxRecDepth 100000 in
theorem lk92_20 : xAt kT92 20 (.iload 5) 22 := ⟨2, rfl, Or.inr rfl, rfl⟩
set_option maxRecDepth 100000 in
theorem lk92_22 : xAt kT92 22 (.aload_n 0) 23 := ⟨1, rfl, Or.inr rfl, rfl⟩
set_option maxRecDepth 100000 in
theorem lk92_23 : xAt kT92 23 (.arraylength) 24 := ⟨1, rfl, Or.inr rfl, rfl⟩
set_option maxRecDepth 100000 in
theorem lk92_24 : xAt kT92 24 (.if_icmp .ge 25) 27 := ⟨3, rfl, Or.inr rfl, rfl⟩
set_option maxRecDepth 100000 in
theorem lk92_27 : xAt kT92 27 (.iload 4) 29 := ⟨2, rfl, Or.inr rfl, rfl⟩
set_option maxRecDepth 100000 in
theorem lk92_29 : xAt kT92 29 (.bipush 8) 31 := ⟨2, rfl, Or.inr rfl, rfl⟩
set_option maxRecDepth 100000 in
theorem lk92_31 : xAt kT92 31 (.ishl) 32 := ⟨1, rfl, Or.inr rfl, rfl⟩
set_option maxRecDepth 100000 in
theorem lk92_32 : xAt kT92 32 (.aload_n 0) 33 := ⟨1, rfl, Or.inr rfl, rfl⟩
set_option maxRecDepth 100000 in
theorem lk92_33 : xAt kT92 33 (.iload 5) 35 := ⟨2, rfl, Or.inr rfl, rfl⟩
set_option maxRecDepth 100000 in
theorem lk92_35 : xAt kT92 35 (.baload) 36 := ⟨1, rfl, Or.inr rfl, rfl⟩
set_option maxRecDepth 100000 in
theorem lk92_36 : xAt kT92 36 (.sipush 255) 39 := ⟨3, rfl, Or.inr rfl, rfl⟩
set_option maxRecDepth 100000 in
theorem lk92_39 : xAt kT92 39 (.iand) 40 := ⟨1, rfl, Or.inr rfl, rfl⟩
set_option maxRecDepth 100000 in
theorem lk92_40 : xAt kT92 40 (.ior) 41 := ⟨1, rfl, Or.inr rfl, rfl⟩
set_option maxRecDepth 100000 in
theorem lk92_41 : xAt kT92 41 (.istore 4) 43 := ⟨2, rfl, Or.inr rfl, rfl⟩
set_option maxRecDepth 100000 in
theorem lk92_43 : xAt kT92 43 (.iinc 5 1) 46 := ⟨3, rfl, Or.inr rfl, rfl⟩
set_option maxRecDepth 100000 in
theorem lk92_46 : xAt kT92 46 (.goto (-40)) 49 := ⟨3, rfl, Or.inr rfl, rfl⟩
set_option maxRecDepth 100000 in
theorem lk92_49 : xAt kT92 49 (.iload 4) 51 := ⟨2, rfl, Or.inr rfl, rfl⟩
set_option maxRecDepth 100000 in
theorem lk92_51 : xAt kT92 51 (.ireturn) 52 := ⟨1, rfl, Or.inr rfl, rfl⟩
set_option maxRecDepth 100000 in
theorem lk88_0 : xAt kT88 0 (.aload_n 1) 1 := ⟨1, rfl, Or.inr rfl, rfl⟩
set_option maxRecDepth 100000 in
theorem lk88_1 : xAt kT88 1 (.iconst 0) 2 := ⟨1, rfl, Or.inr rfl, rfl⟩
set_option maxRecDepth 100000 in
theorem lk88_2 : xAt kT88 2 (.iconst 4) 3 := ⟨1, rfl, Or.inr rfl, rfl⟩
set_option maxRecDepth 100000 in
theorem lk88_3 : xAt kT88 3 (.iload_n 2) 4 := ⟨1, rfl, Or.inr rfl, rfl⟩
set_option maxRecDepth 100000 in
theorem lk88_4 : xAt kT88 4 (.invokestatic 156) 7 := ⟨3, rfl, Or.inr rfl, rfl⟩
set_option maxRecDepth 100000 in
theorem lk88_7 : xAt kT88 7 (.istore_n 3) 8 := ⟨1, rfl, Or.inr rfl, rfl⟩
set_option maxRecDepth 100000 in
theorem lk88_8 : xAt kT88 8 (.iconst 4) 9 := ⟨1, rfl, Or.inr rfl, rfl⟩
set_option maxRecDepth 100000 in
theorem lk88_9 : xAt kT88 9 (.istore 4) 11 := ⟨2, rfl, Or.inr rfl, rfl⟩
set_option maxRecDepth 100000 in
theorem lk88_11 : xAt kT88 11 (.iconst 0) 12 := ⟨1, rfl, Or.inr rfl, rfl⟩
set_option maxRecDepth 100000 in
theorem lk88_12 : xAt kT88 12 (.istore 5) 14 := ⟨2, rfl, Or.inr rfl, rfl⟩
set_option maxRecDepth 100000 in
theorem lk88_14 : xAt kT88 14 (.iload 5) 16 := ⟨2, rfl, Or.inr rfl, rfl⟩
set_option maxRecDepth 100000 in
theorem lk88_16 : xAt kT88 16 (.iload_n 3) 17 := ⟨1, rfl, Or.inr rfl, rfl⟩
set_option maxRecDepth 100000 in
theorem lk88_17 : xAt kT88 17 (.if_icmp .ge 156) 20 := ⟨3, rfl, Or.inr rfl, rfl⟩
set_option maxRecDepth 100000 in
theorem lk88_20 : xAt kT88 20 (.iload 5) 22 := ⟨2, rfl, Or.inr rfl, rfl⟩
set_option maxRecDepth 100000 in
theorem lk88_22 : xAt kT88 22 (.bipush 16) 24 := ⟨2, rfl, Or.inr rfl, rfl⟩
set_option maxRecDepth 100000 in
theorem lk88_24 : xAt kT88 24 (.if_icmp .ge 149) 27 := ⟨3, rfl, Or.inr rfl, rfl⟩
set_option maxRecDepth 100000 in
theorem lk88_27 : xAt kT88 27 (.iload 4) 29 := ⟨2, rfl, Or.inr rfl, rfl⟩
set_option maxRecDepth 100000 in
theorem lk88_29 : xAt kT88 29 (.bipush 18) 31 := ⟨2, rfl, Or.inr rfl, rfl⟩
set_option maxRecDepth 100000 in
theorem lk88_31 : xAt kT88 31 (.iadd) 32 := ⟨1, rfl, Or.inr rfl, rfl⟩
set_option maxRecDepth 100000 in
theorem lk88_32 : xAt kT88 32 (.iload_n 2) 33 := ⟨1, rfl, Or.inr rfl, rfl⟩
set_option maxRecDepth 100000 in
theorem lk88_33 : xAt kT88 33 (.if_icmp .gt 140) 36 := ⟨3, rfl, Or.inr rfl, rfl⟩
set_option maxRecDepth 100000 in
theorem lk88_36 : xAt kT88 36 (.aload_n 1) 37 := ⟨1, rfl, Or.inr rfl, rfl⟩
set_option maxRecDepth 100000 in
theorem lk88_37 : xAt kT88 37 (.iload 4) 39 := ⟨2, rfl, Or.inr rfl, rfl⟩
set_option maxRecDepth 100000 in
theorem lk88_39 : xAt kT88 39 (.bipush 18) 41 := ⟨2, rfl, Or.inr rfl, rfl⟩
set_option maxRecDepth 100000 in
theorem lk88_41 : xAt kT88 41 (.iadd) 42 := ⟨1, rfl, Or.inr rfl, rfl⟩
set_option maxRecDepth 100000 in
theorem lk88_42 : xAt kT88 42 (.iconst 2) 43 := ⟨1, rfl, Or.inr rfl, rfl⟩
set_option maxRecDepth 100000 in
theorem lk88_43 : xAt kT88 43 (.isub) 44 := ⟨1, rfl, Or.inr rfl, rfl⟩
set_option maxRecDepth 100000 in
theorem lk88_44 : xAt kT88 44 (.iconst 2) 45 := ⟨1, rfl, Or.inr rfl, rfl⟩
set_option maxRecDepth 100000 in
theorem lk88_45 : xAt kT88 45 (.iload_n 2) 46 := ⟨1, rfl, Or.inr rfl, rfl⟩
set_option maxRecDepth 100000 in
theorem lk88_46 : xAt kT88 46 (.invokestatic 156) 49 := ⟨3, rfl, Or.inr rfl, rfl⟩
set_option maxRecDepth 100000 in
theorem lk88_49 : xAt kT88 49 (.istore 6) 51 := ⟨2, rfl, Or.inr rfl, rfl⟩
set_option maxRecDepth 100000 in
theorem lk88_51 : xAt kT88 51 (.iload 6) 53 := ⟨2, rfl, Or.inr rfl, rfl⟩
set_option maxRecDepth 100000 in
theorem lk88_53 : xAt kT88 53 (.bipush 101) 55 := ⟨2, rfl, Or.inr rfl, rfl⟩
set_option maxRecDepth 100000 in
theorem lk88_55 : xAt kT88 55 (.if_icmp .gt 15) 58 := ⟨3, rfl, Or.inr rfl, rfl⟩
set_option maxRecDepth 100000 in
theorem lk88_58 : xAt kT88 58 (.iload 4) 60 := ⟨2, rfl, Or.inr rfl, rfl⟩
set_option maxRecDepth 100000 in
theorem lk88_60 : xAt kT88 60 (.bipush 18) 62 := ⟨2, rfl, Or.inr rfl, rfl⟩
set_option maxRecDepth 100000 in
theorem lk88_62 : xAt kT88 62 (.iadd) 63 := ⟨1, rfl, Or.inr rfl, rfl⟩
set_option maxRecDepth 100000 in
theorem lk88_63 : xAt kT88 63 (.iload 6) 65 := ⟨2, rfl, Or.inr rfl, rfl⟩
set_option maxRecDepth 100000 in
theorem lk88_65 : xAt kT88 65 (.iadd) 66 := ⟨1, rfl, Or.inr rfl, rfl⟩
set_option maxRecDepth 100000 in
theorem lk88_66 : xAt kT88 66 (.iload_n 2) 67 := ⟨1, rfl, Or.inr rfl, rfl⟩
set_option maxRecDepth 100000 in
theorem lk88_67 : xAt kT88 67 (.if_icmp .le 5) 70 := ⟨3, rfl, Or.inr rfl, rfl⟩
set_option maxRecDepth 100000 in
theorem lk88_70 : xAt kT88 70 (.iload_n 2) 71 := ⟨1, rfl, Or.inr rfl, rfl⟩
set_option maxRecDepth 100000 in
theorem lk88_71 : xAt kT88 71 (.ireturn) 72 := ⟨1, rfl, Or.inr rfl, rfl⟩
set_option maxRecDepth 100000 in
theorem lk88_72 : xAt kT88 72 (.iload 5) 74 := ⟨2, rfl, Or.inr rfl, rfl⟩
set_option maxRecDepth 100000 in
theorem lk88_74 : xAt kT88 74 (.iconst 5) 75 := ⟨1, rfl, Or.inr rfl, rfl⟩
set_option maxRecDepth 100000 in
theorem lk88_75 : xAt kT88 75 (.imul) 76 := ⟨1, rfl, Or.inr rfl, rfl⟩
set_option maxRecDepth 100000 in
theorem lk88_76 : xAt kT88 76 (.istore 7) 78 := ⟨2, rfl, Or.inr rfl, rfl⟩
set_option maxRecDepth 100000 in
theorem lk88_78 : xAt kT88 78 (.iconst 0) 79 := ⟨1, rfl, Or.inr rfl, rfl⟩
set_option maxRecDepth 100000 in
theorem lk88_79 : xAt kT88 79 (.istore 8) 81 := ⟨2, rfl, Or.inr rfl, rfl⟩
set_option maxRecDepth 100000 in
theorem lk88_81 : xAt kT88 81 (.iload 8) 83 := ⟨2, rfl, Or.inr rfl, rfl⟩
set_option maxRecDepth 100000 in
theorem lk88_83 : xAt kT88 83 (.iconst 4) 84 := ⟨1, rfl, Or.inr rfl, rfl⟩
set_option maxRecDepth 100000 in
theorem lk88_84 : xAt kT88 84 (.if_icmp .ge 32) 87 := ⟨3, rfl, Or.inr rfl, rfl⟩
set_option maxRecDepth 100000 in
theorem lk88_87 : xAt kT88 87 (.aload_n 0) 88 := ⟨1, rfl, Or.inr rfl, rfl⟩
set_option maxRecDepth 100000 in
theorem lk88_88 : xAt kT88 88 (.getfield 11) 91 := ⟨3, rfl, Or.inr rfl, rfl⟩
set_option maxRecDepth 100000 in
theorem lk88_91 : xAt kT88 91 (.iload 7) 93 := ⟨2, rfl, Or.inr rfl, rfl⟩
set_option maxRecDepth 100000 in
theorem lk88_93 : xAt kT88 93 (.iload 8) 95 := ⟨2, rfl, Or.inr rfl, rfl⟩
set_option maxRecDepth 100000 in
theorem lk88_95 : xAt kT88 95 (.iadd) 96 := ⟨1, rfl, Or.inr rfl, rfl⟩
set_option maxRecDepth 100000 in
theorem lk88_96 : xAt kT88 96 (.aload_n 1) 97 := ⟨1, rfl, Or.inr rfl, rfl⟩
set_option maxRecDepth 100000 in
theorem lk88_97 : xAt kT88 97 (.iload 4) 99 := ⟨2, rfl, Or.inr rfl, rfl⟩
set_option maxRecDepth 100000 in
theorem lk88_99 : xAt kT88 99 (.iconst 4) 100 := ⟨1, rfl, Or.inr rfl, rfl⟩
set_option maxRecDepth 100000 in
theorem lk88_100 : xAt kT88 100 (.iload 8) 102 := ⟨2, rfl, Or.inr rfl, rfl⟩
set_option maxRecDepth 100000 in
theorem lk88_102 : xAt kT88 102 (.imul) 103 := ⟨1, rfl, Or.inr rfl, rfl⟩
set_option maxRecDepth 100000 in
theorem lk88_103 : xAt kT88 103 (.iadd) 104 := ⟨1, rfl, Or.inr rfl, rfl⟩
set_option maxRecDepth 100000 in
theorem lk88_104 : xAt kT88 104 (.iconst 4) 105 := ⟨1, rfl, Or.inr rfl, rfl⟩
set_option maxRecDepth 100000 in
theorem lk88_105 : xAt kT88 105 (.iload_n 2) 106 := ⟨1, rfl, Or.inr rfl, rfl⟩
set_option maxRecDepth 100000 in
theorem lk88_106 : xAt kT88 106 (.invokestatic 156) 109 := ⟨3, rfl, Or.inr rfl, rfl⟩
set_option maxRecDepth 100000 in
theorem lk88_109 : xAt kT88 109 (.iastore) 110 := ⟨1, rfl, Or.inr rfl, rfl⟩
set_option maxRecDepth 100000 in
theorem lk88_110 : xAt kT88 110 (.iinc 8 1) 113 := ⟨3, rfl, Or.inr rfl, rfl⟩
set_option maxRecDepth 100000 in
theorem lk88_113 : xAt kT88 113 (.goto (-32)) 116 := ⟨3, rfl, Or.inr rfl, rfl⟩
set_option maxRecDepth 100000 in
theorem lk88_116 : xAt kT88 116 (.aload_n 0) 117 := ⟨1, rfl, Or.inr rfl, rfl⟩
set_option maxRecDepth 100000 in
theorem lk88_117 : xAt kT88 117 (.getfield 11) 120 := ⟨3, rfl, Or.inr rfl, rfl⟩
set_option maxRecDepth 100000 in
theorem lk88_120 : xAt kT88 120 (.iload 7) 122 := ⟨2, rfl, Or.inr rfl, rfl⟩
set_option maxRecDepth 100000 in
theorem lk88_122 : xAt kT88 122 (.iconst 4) 123 := ⟨1, rfl, Or.inr rfl, rfl⟩
set_option maxRecDepth 100000 in
theorem lk88_123 : xAt kT88 123 (.iadd) 124 := ⟨1, rfl, Or.inr rfl, rfl⟩
set_option maxRecDepth 100000 in
theorem lk88_124 : xAt kT88 124 (.iload 6) 126 := ⟨2, rfl, Or.inr rfl, rfl⟩
set_option maxRecDepth 100000 in
theorem lk88_126 : xAt kT88 126 (.iastore) 127 := ⟨1, rfl, Or.inr rfl, rfl⟩
set_option maxRecDepth 100000 in
theorem lk88_127 : xAt kT88 127 (.aload_n 1) 128 := ⟨1, rfl, Or.inr rfl, rfl⟩
set_option maxRecDepth 100000 in
theorem lk88_128 : xAt kT88 128 (.iload 4) 130 := ⟨2, rfl, Or.inr rfl, rfl⟩
set_option maxRecDepth 100000 in
theorem lk88_130 : xAt kT88 130 (.bipush 18) 132 := ⟨2, rfl, Or.inr rfl, rfl⟩
set_option maxRecDepth 100000 in
theorem lk88_132 : xAt kT88 132 (.iadd) 133 := ⟨1, rfl, Or.inr rfl, rfl⟩
set_option maxRecDepth 100000 in
theorem lk88_133 : xAt kT88 133 (.aload_n 0) 134 := ⟨1, rfl, Or.inr rfl, rfl⟩
set_option maxRecDepth 100000 in
theorem lk88_134 : xAt kT88 134 (.getfield 15) 137 := ⟨3, rfl, Or.inr rfl, rfl⟩
set_option maxRecDepth 100000 in
theorem lk88_137 : xAt kT88 137 (.iload 5) 139 := ⟨2, rfl, Or.inr rfl, rfl⟩
set_option maxRecDepth 100000 in
theorem lk88_139 : xAt kT88 139 (.bipush 101) 141 := ⟨2, rfl, Or.inr rfl, rfl⟩
set_option maxRecDepth 100000 in
theorem lk88_141 : xAt kT88 141 (.imul) 142 := ⟨1, rfl, Or.inr rfl, rfl⟩
set_option maxRecDepth 100000 in
theorem lk88_142 : xAt kT88 142 (.iload 6) 144 := ⟨2, rfl, Or.inr rfl, rfl⟩
set_option maxRecDepth 100000 in
theorem lk88_144 : xAt kT88 144 (.invokestatic 68) 147 := ⟨3, rfl, Or.inr rfl, rfl⟩
set_option maxRecDepth 100000 in
theorem lk88_147 : xAt kT88 147 (.iload 4) 149 := ⟨2, rfl, Or.inr rfl, rfl⟩
set_option maxRecDepth 100000 in
theorem lk88_149 : xAt kT88 149 (.bipush 18) 151 := ⟨2, rfl, Or.inr rfl, rfl⟩
set_option maxRecDepth 100000 in
theorem lk88_151 : xAt kT88 151 (.iload 6) 153 := ⟨2, rfl, Or.inr rfl, rfl⟩
set_option maxRecDepth 100000 in
theorem lk88_153 : xAt kT88 153 (.iadd) 154 := ⟨1, rfl, Or.inr rfl, rfl⟩
set_option maxRecDepth 100000 in
theorem lk88_154 : xAt kT88 154 (.iadd) 155 := ⟨1, rfl, Or.inr rfl, rfl⟩
set_option maxRecDepth 100000 in
theorem lk88_155 : xAt kT88 155 (.istore 4) 157 := ⟨2, rfl, Or.inr rfl, rfl⟩
set_option maxRecDepth 100000 in
theorem lk88_157 : xAt kT88 157 (.aload_n 0) 158 := ⟨1, rfl, Or.inr rfl, rfl⟩
set_option maxRecDepth 100000 in
theorem lk88_158 : xAt kT88 158 (.dup) 159 := ⟨1, rfl, Or.inr rfl, rfl⟩
set_option maxRecDepth 100000 in
theorem lk88_159 : xAt kT88 159 (.getfield 41) 162 := ⟨3, rfl, Or.inr rfl, rfl⟩
set_option maxRecDepth 100000 in
theorem lk88_162 : xAt kT88 162 (.iconst 1) 163 := ⟨1, rfl, Or.inr rfl, rfl⟩
set_option maxRecDepth 100000 in
theorem lk88_163 : xAt kT88 163 (.iadd) 164 := ⟨1, rfl, Or.inr rfl, rfl⟩
set_option maxRecDepth 100000 in
theorem lk88_164 : xAt kT88 164 (.putfield 41) 167 := ⟨3, rfl, Or.inr rfl, rfl⟩
set_option maxRecDepth 100000 in
theorem lk88_167 : xAt kT88 167 (.iinc 5 1) 170 := ⟨3, rfl, Or.inr rfl, rfl⟩
set_option maxRecDepth 100000 in
theorem lk88_170 : xAt kT88 170 (.goto (-156)) 173 := ⟨3, rfl, Or.inr rfl, rfl⟩
set_option maxRecDepth 100000 in
theorem lk88_173 : xAt kT88 173 (.iload 4) 175 := ⟨2, rfl, Or.inr rfl, rfl⟩
set_option maxRecDepth 100000 in
theorem lk88_175 : xAt kT88 175 (.ireturn) 176 := ⟨1, rfl, Or.inr rfl, rfl⟩
set_option maxRecDepth 100000 in
theorem lk87_0 : xAt kT87 0 (.aload_n 0) 1 := ⟨1, rfl, Or.inr rfl, rfl⟩
set_option maxRecDepth 100000 in
theorem lk87_1 : xAt kT87 1 (.invokevirtual 149) 4 := ⟨3, rfl, Or.inr rfl, rfl⟩
set_option maxRecDepth 100000 in
theorem lk87_4 : xAt kT87 4 (.aload_n 0) 5 := ⟨1, rfl, Or.inr rfl, rfl⟩
set_option maxRecDepth 100000 in
theorem lk87_5 : xAt kT87 5 (.aload_n 1) 6 := ⟨1, rfl, Or.inr rfl, rfl⟩
set_option maxRecDepth 100000 in
theorem lk87_6 : xAt kT87 6 (.iload_n 2) 7 := ⟨1, rfl, Or.inr rfl, rfl⟩
set_option maxRecDepth 100000 in
theorem lk87_7 : xAt kT87 7 (.invokevirtual 152) 10 := ⟨3, rfl, Or.inr rfl, rfl⟩
set_option maxRecDepth 100000 in
theorem lk87_10 : xAt kT87 10 (.istore_n 3) 11 := ⟨1, rfl, Or.inr rfl, rfl⟩
set_option maxRecDepth 100000 in
theorem lk87_11 : xAt kT87 11 (.aload_n 1) 12 := ⟨1, rfl, Or.inr rfl, rfl⟩
set_option maxRecDepth 100000 in
theorem lk87_12 : xAt kT87 12 (.iload_n 3) 13 := ⟨1, rfl, Or.inr rfl, rfl⟩
set_option maxRecDepth 100000 in
theorem lk87_13 : xAt kT87 13 (.iconst 4) 14 := ⟨1, rfl, Or.inr rfl, rfl⟩
set_option maxRecDepth 100000 in
theorem lk87_14 : xAt kT87 14 (.iload_n 2) 15 := ⟨1, rfl, Or.inr rfl, rfl⟩
set_option maxRecDepth 100000 in
theorem lk87_15 : xAt kT87 15 (.invokestatic 156) 18 := ⟨3, rfl, Or.inr rfl, rfl⟩
set_option maxRecDepth 100000 in
theorem lk87_18 : xAt kT87 18 (.istore 4) 20 := ⟨2, rfl, Or.inr rfl, rfl⟩
set_option maxRecDepth 100000 in
theorem lk87_20 : xAt kT87 20 (.iinc 3 4) 23 := ⟨3, rfl, Or.inr rfl, rfl⟩
set_option maxRecDepth 100000 in
theorem lk87_23 : xAt kT87 23 (.iconst 0) 24 := ⟨1, rfl, Or.inr rfl, rfl⟩
set_option maxRecDepth 100000 in
theorem lk87_24 : xAt kT87 24 (.istore 5) 26 := ⟨2, rfl, Or.inr rfl, rfl⟩
set_option maxRecDepth 100000 in
theorem lk87_26 : xAt kT87 26 (.iload 5) 28 := ⟨2, rfl, Or.inr rfl, rfl⟩
set_option maxRecDepth 100000 in
theorem lk87_28 : xAt kT87 28 (.iload 4) 30 := ⟨2, rfl, Or.inr rfl, rfl⟩
set_option maxRecDepth 100000 in
theorem lk87_30 : xAt kT87 30 (.if_icmp .ge 173) 33 := ⟨3, rfl, Or.inr rfl, rfl⟩
set_option maxRecDepth 100000 in
theorem lk87_33 : xAt kT87 33 (.iload 5) 35 := ⟨2, rfl, Or.inr rfl, rfl⟩
set_option maxRecDepth 100000 in
theorem lk87_35 : xAt kT87 35 (.sipush 128) 38 := ⟨3, rfl, Or.inr rfl, rfl⟩
set_option maxRecDepth 100000 in
theorem lk87_38 : xAt kT87 38 (.if_icmp .ge 165) 41 := ⟨3, rfl, Or.inr rfl, rfl⟩
set_option maxRecDepth 100000 in
theorem lk87_41 : xAt kT87 41 (.iload_n 3) 42 := ⟨1, rfl, Or.inr rfl, rfl⟩
set_option maxRecDepth 100000 in
theorem lk87_42 : xAt kT87 42 (.iconst 3) 43 := ⟨1, rfl, Or.inr rfl, rfl⟩
set_option maxRecDepth 100000 in
theorem lk87_43 : xAt kT87 43 (.iadd) 44 := ⟨1, rfl, Or.inr rfl, rfl⟩
set_option maxRecDepth 100000 in
theorem lk87_44 : xAt kT87 44 (.iload_n 2) 45 := ⟨1, rfl, Or.inr rfl, rfl⟩
set_option maxRecDepth 100000 in
theorem lk87_45 : xAt kT87 45 (.if_icmp .gt 158) 48 := ⟨3, rfl, Or.inr rfl, rfl⟩
set_option maxRecDepth 100000 in
theorem lk87_48 : xAt kT87 48 (.aload_n 1) 49 := ⟨1, rfl, Or.inr rfl, rfl⟩
set_option maxRecDepth 100000 in
theorem lk87_49 : xAt kT87 49 (.iload_n 3) 50 := ⟨1, rfl, Or.inr rfl, rfl⟩
set_option maxRecDepth 100000 in
theorem lk87_50 : xAt kT87 50 (.iconst 1) 51 := ⟨1, rfl, Or.inr rfl, rfl⟩
set_option maxRecDepth 100000 in
theorem lk87_51 : xAt kT87 51 (.iload_n 2) 52 := ⟨1, rfl, Or.inr rfl, rfl⟩
set_option maxRecDepth 100000 in
theorem lk87_52 : xAt kT87 52 (.invokestatic 156) 55 := ⟨3, rfl, Or.inr rfl, rfl⟩
set_option maxRecDepth 100000 in
theorem lk87_55 : xAt kT87 55 (.istore 6) 57 := ⟨2, rfl, Or.inr rfl, rfl⟩
set_option maxRecDepth 100000 in
theorem lk87_57 : xAt kT87 57 (.aload_n 1) 58 := ⟨1, rfl, Or.inr rfl, rfl⟩
set_option maxRecDepth 100000 in
theorem lk87_58 : xAt kT87 58 (.iload_n 3) 59 := ⟨1, rfl, Or.inr rfl, rfl⟩
set_option maxRecDepth 100000 in
theorem lk87_59 : xAt kT87 59 (.iconst 1) 60 := ⟨1, rfl, Or.inr rfl, rfl⟩
set_option maxRecDepth 100000 in
theorem lk87_60 : xAt kT87 60 (.iadd) 61 := ⟨1, rfl, Or.inr rfl, rfl⟩
set_option maxRecDepth 100000 in
theorem lk87_61 : xAt kT87 61 (.iconst 2) 62 := ⟨1, rfl, Or.inr rfl, rfl⟩
set_option maxRecDepth 100000 in
theorem lk87_62 : xAt kT87 62 (.iload_n 2) 63 := ⟨1, rfl, Or.inr rfl, rfl⟩
set_option maxRecDepth 100000 in
theorem lk87_63 : xAt kT87 63 (.invokestatic 156) 66 := ⟨3, rfl, Or.inr rfl, rfl⟩
set_option maxRecDepth 100000 in
theorem lk87_66 : xAt kT87 66 (.istore 7) 68 := ⟨2, rfl, Or.inr rfl, rfl⟩
set_option maxRecDepth 100000 in
theorem lk87_68 : xAt kT87 68 (.iinc 3 3) 71 := ⟨3, rfl, Or.inr rfl, rfl⟩
set_option maxRecDepth 100000 in
theorem lk87_71 : xAt kT87 71 (.iload 6) 73 := ⟨2, rfl, Or.inr rfl, rfl⟩
set_option maxRecDepth 100000 in
theorem lk87_73 : xAt kT87 73 (.bipush 32) 75 := ⟨2, rfl, Or.inr rfl, rfl⟩
set_option maxRecDepth 100000 in
theorem lk87_75 : xAt kT87 75 (.if_icmp .gt 21) 78 := ⟨3, rfl, Or.inr rfl, rfl⟩
set_option maxRecDepth 100000 in
theorem lk87_78 : xAt kT87 78 (.iload 7) 80 := ⟨2, rfl, Or.inr rfl, rfl⟩
set_option maxRecDepth 100000 in
theorem lk87_80 : xAt kT87 80 (.bipush 100) 82 := ⟨2, rfl, Or.inr rfl, rfl⟩
set_option maxRecDepth 100000 in
theorem lk87_82 : xAt kT87 82 (.if_icmp .gt 14) 85 := ⟨3, rfl, Or.inr rfl, rfl⟩
set_option maxRecDepth 100000 in
theorem lk87_85 : xAt kT87 85 (.iload_n 3) 86 := ⟨1, rfl, Or.inr rfl, rfl⟩
set_option maxRecDepth 100000 in
theorem lk87_86 : xAt kT87 86 (.iload 6) 88 := ⟨2, rfl, Or.inr rfl, rfl⟩
set_option maxRecDepth 100000 in
theorem lk87_88 : xAt kT87 88 (.iadd) 89 := ⟨1, rfl, Or.inr rfl, rfl⟩
set_option maxRecDepth 100000 in
theorem lk87_89 : xAt kT87 89 (.iload 7) 91 := ⟨2, rfl, Or.inr rfl, rfl⟩
set_option maxRecDepth 100000 in
theorem lk87_91 : xAt kT87 91 (.iadd) 92 := ⟨1, rfl, Or.inr rfl, rfl⟩
set_option maxRecDepth 100000 in
theorem lk87_92 : xAt kT87 92 (.iload_n 2) 93 := ⟨1, rfl, Or.inr rfl, rfl⟩
set_option maxRecDepth 100000 in
theorem lk87_93 : xAt kT87 93 (.if_icmp .le 4) 96 := ⟨3, rfl, Or.inr rfl, rfl⟩
set_option maxRecDepth 100000 in
theorem lk87_96 : xAt kT87 96 (.return_) 97 := ⟨1, rfl, Or.inr rfl, rfl⟩
set_option maxRecDepth 100000 in
theorem lk87_97 : xAt kT87 97 (.aload_n 0) 98 := ⟨1, rfl, Or.inr rfl, rfl⟩
set_option maxRecDepth 100000 in
theorem lk87_98 : xAt kT87 98 (.getfield 19) 101 := ⟨3, rfl, Or.inr rfl, rfl⟩
set_option maxRecDepth 100000 in
theorem lk87_101 : xAt kT87 101 (.iload 5) 103 := ⟨2, rfl, Or.inr rfl, rfl⟩
set_option maxRecDepth 100000 in
theorem lk87_103 : xAt kT87 103 (.iaload) 104 := ⟨1, rfl, Or.inr rfl, rfl⟩
set_option maxRecDepth 100000 in
theorem lk87_104 : xAt kT87 104 (.istore 8) 106 := ⟨2, rfl, Or.inr rfl, rfl⟩
set_option maxRecDepth 100000 in
theorem lk87_106 : xAt kT87 106 (.aload_n 0) 107 := ⟨1, rfl, Or.inr rfl, rfl⟩
set_option maxRecDepth 100000 in
theorem lk87_107 : xAt kT87 107 (.getfield 22) 110 := ⟨3, rfl, Or.inr rfl, rfl⟩
set_option maxRecDepth 100000 in
theorem lk87_110 : xAt kT87 110 (.iload 8) 112 := ⟨2, rfl, Or.inr rfl, rfl⟩
set_option maxRecDepth 100000 in
theorem lk87_112 : xAt kT87 112 (.iload 6) 114 := ⟨2, rfl, Or.inr rfl, rfl⟩
set_option maxRecDepth 100000 in
theorem lk87_114 : xAt kT87 114 (.iastore) 115 := ⟨1, rfl, Or.inr rfl, rfl⟩
set_option maxRecDepth 100000 in
theorem lk87_115 : xAt kT87 115 (.aload_n 0) 116 := ⟨1, rfl, Or.inr rfl, rfl⟩
set_option maxRecDepth 100000 in
theorem lk87_116 : xAt kT87 116 (.getfield 25) 119 := ⟨3, rfl, Or.inr rfl, rfl⟩
set_option maxRecDepth 100000 in
theorem lk87_119 : xAt kT87 119 (.iload 8) 121 := ⟨2, rfl, Or.inr rfl, rfl⟩
set_option maxRecDepth 100000 in
theorem lk87_121 : xAt kT87 121 (.iload 7) 123 := ⟨2, rfl, Or.inr rfl, rfl⟩
set_option maxRecDepth 100000 in
theorem lk87_123 : xAt kT87 123 (.iastore) 124 := ⟨1, rfl, Or.inr rfl, rfl⟩
set_option maxRecDepth 100000 in
theorem lk87_124 : xAt kT87 124 (.aload_n 1) 125 := ⟨1, rfl, Or.inr rfl, rfl⟩
set_option maxRecDepth 100000 in
theorem lk87_125 : xAt kT87 125 (.iload_n 3) 126 := ⟨1, rfl, Or.inr rfl, rfl⟩
set_option maxRecDepth 100000 in
theorem lk87_126 : xAt kT87 126 (.aload_n 0) 127 := ⟨1, rfl, Or.inr rfl, rfl⟩
set_option maxRecDepth 100000 in
theorem lk87_127 : xAt kT87 127 (.getfield 28) 130 := ⟨3, rfl, Or.inr rfl, rfl⟩
set_option maxRecDepth 100000 in
theorem lk87_130 : xAt kT87 130 (.iload 8) 132 := ⟨2, rfl, Or.inr rfl, rfl⟩
set_option maxRecDepth 100000 in
theorem lk87_132 : xAt kT87 132 (.sipush 132) 135 := ⟨3, rfl, Or.inr rfl, rfl⟩
set_option maxRecDepth 100000 in
theorem lk87_135 : xAt kT87 135 (.imul) 136 := ⟨1, rfl, Or.inr rfl, rfl⟩
set_option maxRecDepth 100000 in
theorem lk87_136 : xAt kT87 136 (.iload 6) 138 := ⟨2, rfl, Or.inr rfl, rfl⟩
set_option maxRecDepth 100000 in
theorem lk87_138 : xAt kT87 138 (.invokestatic 68) 141 := ⟨3, rfl, Or.inr rfl, rfl⟩
set_option maxRecDepth 100000 in
theorem lk87_141 : xAt kT87 141 (.aload_n 1) 142 := ⟨1, rfl, Or.inr rfl, rfl⟩
set_option maxRecDepth 100000 in
theorem lk87_142 : xAt kT87 142 (.iload_n 3) 143 := ⟨1, rfl, Or.inr rfl, rfl⟩
set_option maxRecDepth 100000 in
theorem lk87_143 : xAt kT87 143 (.iload 6) 145 := ⟨2, rfl, Or.inr rfl, rfl⟩
set_option maxRecDepth 100000 in
theorem lk87_145 : xAt kT87 145 (.iadd) 146 := ⟨1, rfl, Or.inr rfl, rfl⟩
set_option maxRecDepth 100000 in
theorem lk87_146 : xAt kT87 146 (.aload_n 0) 147 := ⟨1, rfl, Or.inr rfl, rfl⟩
set_option maxRecDepth 100000 in
theorem lk87_147 : xAt kT87 147 (.getfield 28) 150 := ⟨3, rfl, Or.inr rfl, rfl⟩
set_option maxRecDepth 100000 in
theorem lk87_150 : xAt kT87 150 (.iload 8) 152 := ⟨2, rfl, Or.inr rfl, rfl⟩
set_option maxRecDepth 100000 in
theorem lk87_152 : xAt kT87 152 (.sipush 132) 155 := ⟨3, rfl, Or.inr rfl, rfl⟩
set_option maxRecDepth 100000 in
theorem lk87_155 : xAt kT87 155 (.imul) 156 := ⟨1, rfl, Or.inr rfl, rfl⟩
set_option maxRecDepth 100000 in
theorem lk87_156 : xAt kT87 156 (.bipush 32) 158 := ⟨2, rfl, Or.inr rfl, rfl⟩
set_option maxRecDepth 100000 in
theorem lk87_158 : xAt kT87 158 (.iadd) 159 := ⟨1, rfl, Or.inr rfl, rfl⟩
set_option maxRecDepth 100000 in
theorem lk87_159 : xAt kT87 159 (.iload 7) 161 := ⟨2, rfl, Or.inr rfl, rfl⟩
set_option maxRecDepth 100000 in
theorem lk87_161 : xAt kT87 161 (.invokestatic 68) 164 := ⟨3, rfl, Or.inr rfl, rfl⟩
set_option maxRecDepth 100000 in
theorem lk87_164 : xAt kT87 164 (.iload_n 3) 165 := ⟨1, rfl, Or.inr rfl, rfl⟩
set_option maxRecDepth 100000 in
theorem lk87_165 : xAt kT87 165 (.iload 6) 167 := ⟨2, rfl, Or.inr rfl, rfl⟩
set_option maxRecDepth 100000 in
theorem lk87_167 : xAt kT87 167 (.iload 7) 169 := ⟨2, rfl, Or.inr rfl, rfl⟩
set_option maxRecDepth 100000 in
theorem lk87_169 : xAt kT87 169 (.iadd) 170 := ⟨1, rfl, Or.inr rfl, rfl⟩
set_option maxRecDepth 100000 in
theorem lk87_170 : xAt kT87 170 (.iadd) 171 := ⟨1, rfl, Or.inr rfl, rfl⟩
set_option maxRecDepth 100000 in
theorem lk87_171 : xAt kT87 171 (.istore_n 3) 172 := ⟨1, rfl, Or.inr rfl, rfl⟩
set_option maxRecDepth 100000 in
theorem lk87_172 : xAt kT87 172 (.aload_n 0) 173 := ⟨1, rfl, Or.inr rfl, rfl⟩
set_option maxRecDepth 100000 in
theorem lk87_173 : xAt kT87 173 (.dup) 174 := ⟨1, rfl, Or.inr rfl, rfl⟩
set_option maxRecDepth 100000 in
theorem lk87_174 : xAt kT87 174 (.getfield 45) 177 := ⟨3, rfl, Or.inr rfl, rfl⟩
set_option maxRecDepth 100000 in
theorem lk87_177 : xAt kT87 177 (.iconst 1) 178 := ⟨1, rfl, Or.inr rfl, rfl⟩
set_option maxRecDepth 100000 in
theorem lk87_178 : xAt kT87 178 (.iadd) 179 := ⟨1, rfl, Or.inr rfl, rfl⟩
set_option maxRecDepth 100000 in
theorem lk87_179 : xAt kT87 179 (.putfield 45) 182 := ⟨3, rfl, Or.inr rfl, rfl⟩
set_option maxRecDepth 100000 in
theorem lk87_182 : xAt kT87 182 (.aload_n 0) 183 := ⟨1, rfl, Or.inr rfl, rfl⟩
set_option maxRecDepth 100000 in
theorem lk87_183 : xAt kT87 183 (.dup) 184 := ⟨1, rfl, Or.inr rfl, rfl⟩
set_option maxRecDepth 100000 in
theorem lk87_184 : xAt kT87 184 (.getfield 48) 187 := ⟨3, rfl, Or.inr rfl, rfl⟩
set_option maxRecDepth 100000 in
theorem lk87_187 : xAt kT87 187 (.aload_n 0) 188 := ⟨1, rfl, Or.inr rfl, rfl⟩
set_option maxRecDepth 100000 in
theorem lk87_188 : xAt kT87 188 (.iload 5) 190 := ⟨2, rfl, Or.inr rfl, rfl⟩
set_option maxRecDepth 100000 in
theorem lk87_190 : xAt kT87 190 (.invokevirtual 124) 193 := ⟨3, rfl, Or.inr rfl, rfl⟩
set_option maxRecDepth 100000 in
theorem lk87_193 : xAt kT87 193 (.iadd) 194 := ⟨1, rfl, Or.inr rfl, rfl⟩
set_option maxRecDepth 100000 in
theorem lk87_194 : xAt kT87 194 (.putfield 48) 197 := ⟨3, rfl, Or.inr rfl, rfl⟩
set_option maxRecDepth 100000 in
theorem lk87_197 : xAt kT87 197 (.iinc 5 1) 200 := ⟨3, rfl, Or.inr rfl, rfl⟩
set_option maxRecDepth 100000 in
theorem lk87_200 : xAt kT87 200 (.goto (-174)) 203 := ⟨3, rfl, Or.inr rfl, rfl⟩
set_option maxRecDepth 100000 in
theorem lk87_203 : xAt kT87 203 (.return_) 204 := ⟨1, rfl, Or.inr rfl, rfl⟩
set_option maxRecDepth 100000 in
theorem lk62_0 : xAt kT62 0 (.aload_n 0) 1 := ⟨1, rfl, Or.inr rfl, rfl⟩
set_option maxRecDepth 100000 in
theorem lk62_1 : xAt kT62 1 (.invokevirtual 57) 4 := ⟨3, rfl, Or.inr rfl, rfl⟩
set_option maxRecDepth 100000 in
theorem lk62_4 : xAt kT62 4 (.sipush 300) 7 := ⟨3, rfl, Or.inr rfl, rfl⟩
set_option maxRecDepth 100000 in
theorem lk62_7 : xAt kT62 7 (.if_icmp .lt 4) 10 := ⟨3, rfl, Or.inr rfl, rfl⟩
set_option maxRecDepth 100000 in
theorem lk62_10 : xAt kT62 10 (.return_) 11 := ⟨1, rfl, Or.inr rfl, rfl⟩
set_option maxRecDepth 100000 in
theorem lk62_11 : xAt kT62 11 (.aload_n 1) 12 := ⟨1, rfl, Or.inr rfl, rfl⟩
set_option maxRecDepth 100000 in
theorem lk62_12 : xAt kT62 12 (.iload_n 2) 13 := ⟨1, rfl, Or.inr rfl, rfl⟩
set_option maxRecDepth 100000 in
theorem lk62_13 : xAt kT62 13 (.aload_n 0) 14 := ⟨1, rfl, Or.inr rfl, rfl⟩
set_option maxRecDepth 100000 in
theorem lk62_14 : xAt kT62 14 (.getfield 9) 17 := ⟨3, rfl, Or.inr rfl, rfl⟩
set_option maxRecDepth 100000 in
theorem lk62_17 : xAt kT62 17 (.aload_n 0) 18 := ⟨1, rfl, Or.inr rfl, rfl⟩
set_option maxRecDepth 100000 in
theorem lk62_18 : xAt kT62 18 (.invokevirtual 57) 21 := ⟨3, rfl, Or.inr rfl, rfl⟩
set_option maxRecDepth 100000 in
theorem lk62_21 : xAt kT62 21 (.bipush 6) 23 := ⟨2, rfl, Or.inr rfl, rfl⟩
set_option maxRecDepth 100000 in
theorem lk62_23 : xAt kT62 23 (.imul) 24 := ⟨1, rfl, Or.inr rfl, rfl⟩
set_option maxRecDepth 100000 in
theorem lk62_24 : xAt kT62 24 (.bipush 6) 26 := ⟨2, rfl, Or.inr rfl, rfl⟩
set_option maxRecDepth 100000 in
theorem lk62_26 : xAt kT62 26 (.invokestatic 61) 29 := ⟨3, rfl, Or.inr rfl, rfl⟩
set_option maxRecDepth 100000 in
theorem lk62_29 : xAt kT62 29 (.aload_n 0) 30 := ⟨1, rfl, Or.inr rfl, rfl⟩
set_option maxRecDepth 100000 in
theorem lk62_30 : xAt kT62 30 (.dup) 31 := ⟨1, rfl, Or.inr rfl, rfl⟩
set_option maxRecDepth 100000 in
theorem lk62_31 : xAt kT62 31 (.getfield 34) 34 := ⟨3, rfl, Or.inr rfl, rfl⟩
set_option maxRecDepth 100000 in
theorem lk62_34 : xAt kT62 34 (.iconst 1) 35 := ⟨1, rfl, Or.inr rfl, rfl⟩
set_option maxRecDepth 100000 in
theorem lk62_35 : xAt kT62 35 (.iadd) 36 := ⟨1, rfl, Or.inr rfl, rfl⟩
set_option maxRecDepth 100000 in
theorem lk62_36 : xAt kT62 36 (.putfield 34) 39 := ⟨3, rfl, Or.inr rfl, rfl⟩
set_option maxRecDepth 100000 in
theorem lk62_39 : xAt kT62 39 (.aload_n 1) 40 := ⟨1, rfl, Or.inr rfl, rfl⟩
set_option maxRecDepth 100000 in
theorem lk62_40 : xAt kT62 40 (.iload_n 2) 41 := ⟨1, rfl, Or.inr rfl, rfl⟩
set_option maxRecDepth 100000 in
theorem lk62_41 : xAt kT62 41 (.iconst 1) 42 := ⟨1, rfl, Or.inr rfl, rfl⟩
set_option maxRecDepth 100000 in
theorem lk62_42 : xAt kT62 42 (.iadd) 43 := ⟨1, rfl, Or.inr rfl, rfl⟩
set_option maxRecDepth 100000 in
theorem lk62_43 : xAt kT62 43 (.iaload) 44 := ⟨1, rfl, Or.inr rfl, rfl⟩
set_option maxRecDepth 100000 in
theorem lk62_44 : xAt kT62 44 (.iconst 1) 45 := ⟨1, rfl, Or.inr rfl, rfl⟩
set_option maxRecDepth 100000 in
theorem lk62_45 : xAt kT62 45 (.if_icmp .ne 20) 48 := ⟨3, rfl, Or.inr rfl, rfl⟩
set_option maxRecDepth 100000 in
theorem lk62_48 : xAt kT62 48 (.aload_n 0) 49 := ⟨1, rfl, Or.inr rfl, rfl⟩
set_option maxRecDepth 100000 in
theorem lk62_49 : xAt kT62 49 (.aload_n 1) 50 := ⟨1, rfl, Or.inr rfl, rfl⟩
set_option maxRecDepth 100000 in
theorem lk62_50 : xAt kT62 50 (.iload_n 2) 51 := ⟨1, rfl, Or.inr rfl, rfl⟩
set_option maxRecDepth 100000 in
theorem lk62_51 : xAt kT62 51 (.iconst 3) 52 := ⟨1, rfl, Or.inr rfl, rfl⟩
set_option maxRecDepth 100000 in
theorem lk62_52 : xAt kT62 52 (.iadd) 53 := ⟨1, rfl, Or.inr rfl, rfl⟩
set_option maxRecDepth 100000 in
theorem lk62_53 : xAt kT62 53 (.iaload) 54 := ⟨1, rfl, Or.inr rfl, rfl⟩
set_option maxRecDepth 100000 in
theorem lk62_54 : xAt kT62 54 (.putfield 25) 57 := ⟨3, rfl, Or.inr rfl, rfl⟩
set_option maxRecDepth 100000 in
theorem lk62_57 : xAt kT62 57 (.aload_n 0) 58 := ⟨1, rfl, Or.inr rfl, rfl⟩
set_option maxRecDepth 100000 in
theorem lk62_58 : xAt kT62 58 (.aload_n 0) 59 := ⟨1, rfl, Or.inr rfl, rfl⟩
set_option maxRecDepth 100000 in
theorem lk62_59 : xAt kT62 59 (.getfield 34) 62 := ⟨3, rfl, Or.inr rfl, rfl⟩
set_option maxRecDepth 100000 in
theorem lk62_62 : xAt kT62 62 (.putfield 67) 65 := ⟨3, rfl, Or.inr rfl, rfl⟩
set_option maxRecDepth 100000 in
theorem lk62_65 : xAt kT62 65 (.return_) 66 := ⟨1, rfl, Or.inr rfl, rfl⟩
set_option maxRecDepth 100000 in
theorem lk145_0 : xAt kT145 0 (.aload_n 0) 1 := ⟨1, rfl, Or.inr rfl, rfl⟩
set_option maxRecDepth 100000 in
theorem lk145_1 : xAt kT145 1 (.getfield 72) 4 := ⟨3, rfl, Or.inr rfl, rfl⟩
set_option maxRecDepth 100000 in
theorem lk145_4 : xAt kT145 4 (.invokevirtual 254) 7 := ⟨3, rfl, Or.inr rfl, rfl⟩
set_option maxRecDepth 100000 in
theorem lk145_7 : xAt kT145 7 (.aload_n 0) 8 := ⟨1, rfl, Or.inr rfl, rfl⟩
set_option maxRecDepth 100000 in
theorem lk145_8 : xAt kT145 8 (.getfield 81) 11 := ⟨3, rfl, Or.inr rfl, rfl⟩
set_option maxRecDepth 100000 in
theorem lk145_11 : xAt kT145 11 (.invokevirtual 255) 14 := ⟨3, rfl, Or.inr rfl, rfl⟩
set_option maxRecDepth 100000 in
theorem lk145_14 : xAt kT145 14 (.aload_n 0) 15 := ⟨1, rfl, Or.inr rfl, rfl⟩
set_option maxRecDepth 100000 in
theorem lk145_15 : xAt kT145 15 (.getfield 12) 18 := ⟨3, rfl, Or.inr rfl, rfl⟩
set_option maxRecDepth 100000 in
theorem lk145_18 : xAt kT145 18 (.getfield 256) 21 := ⟨3, rfl, Or.inr rfl, rfl⟩
set_option maxRecDepth 100000 in
theorem lk145_21 : xAt kT145 21 (.iconst (-1)) 22 := ⟨1, rfl, Or.inr rfl, rfl⟩
set_option maxRecDepth 100000 in
theorem lk145_22 : xAt kT145 22 (.if_icmp .eq 53) 25 := ⟨3, rfl, Or.inr rfl, rfl⟩
set_option maxRecDepth 100000 in
theorem lk145_25 : xAt kT145 25 (.aload_n 0) 26 := ⟨1, rfl, Or.inr rfl, rfl⟩
set_option maxRecDepth 100000 in
theorem lk145_26 : xAt kT145 26 (.getfield 12) 29 := ⟨3, rfl, Or.inr rfl, rfl⟩
set_option maxRecDepth 100000 in
theorem lk145_29 : xAt kT145 29 (.getfield 259) 32 := ⟨3, rfl, Or.inr rfl, rfl⟩
set_option maxRecDepth 100000 in
theorem lk145_32 : xAt kT145 32 (.aload_n 0) 33 := ⟨1, rfl, Or.inr rfl, rfl⟩
set_option maxRecDepth 100000 in
theorem lk145_33 : xAt kT145 33 (.getfield 12) 36 := ⟨3, rfl, Or.inr rfl, rfl⟩
set_option maxRecDepth 100000 in
theorem lk145_36 : xAt kT145 36 (.getfield 256) 39 := ⟨3, rfl, Or.inr rfl, rfl⟩
set_option maxRecDepth 100000 in
theorem lk145_39 : xAt kT145 39 (.aaload) 40 := ⟨1, rfl, Or.inr rfl, rfl⟩
set_option maxRecDepth 100000 in
theorem lk145_40 : xAt kT145 40 (.astore_n 1) 41 := ⟨1, rfl, Or.inr rfl, rfl⟩
set_option maxRecDepth 100000 in
theorem lk145_41 : xAt kT145 41 (.aload_n 0) 42 := ⟨1, rfl, Or.inr rfl, rfl⟩
set_option maxRecDepth 100000 in
theorem lk145_42 : xAt kT145 42 (.getfield 72) 45 := ⟨3, rfl, Or.inr rfl, rfl⟩
set_option maxRecDepth 100000 in
theorem lk145_45 : xAt kT145 45 (.aload_n 1) 46 := ⟨1, rfl, Or.inr rfl, rfl⟩
set_option maxRecDepth 100000 in
theorem lk145_46 : xAt kT145 46 (.getfield 263) 49 := ⟨3, rfl, Or.inr rfl, rfl⟩
set_option maxRecDepth 100000 in
theorem lk145_49 : xAt kT145 49 (.aload_n 1) 50 := ⟨1, rfl, Or.inr rfl, rfl⟩
set_option maxRecDepth 100000 in
theorem lk145_50 : xAt kT145 50 (.getfield 268) 53 := ⟨3, rfl, Or.inr rfl, rfl⟩
set_option maxRecDepth 100000 in
theorem lk145_53 : xAt kT145 53 (.aload_n 1) 54 := ⟨1, rfl, Or.inr rfl, rfl⟩
set_option maxRecDepth 100000 in
theorem lk145_54 : xAt kT145 54 (.getfield 269) 57 := ⟨3, rfl, Or.inr rfl, rfl⟩
set_option maxRecDepth 100000 in
theorem lk145_57 : xAt kT145 57 (.invokevirtual 272) 60 := ⟨3, rfl, Or.inr rfl, rfl⟩
set_option maxRecDepth 100000 in
theorem lk145_60 : xAt kT145 60 (.aload_n 0) 61 := ⟨1, rfl, Or.inr rfl, rfl⟩
set_option maxRecDepth 100000 in
theorem lk145_61 : xAt kT145 61 (.getfield 81) 64 := ⟨3, rfl, Or.inr rfl, rfl⟩
set_option maxRecDepth 100000 in
theorem lk145_64 : xAt kT145 64 (.aload_n 1) 65 := ⟨1, rfl, Or.inr rfl, rfl⟩
set_option maxRecDepth 100000 in
theorem lk145_65 : xAt kT145 65 (.getfield 276) 68 := ⟨3, rfl, Or.inr rfl, rfl⟩
set_option maxRecDepth 100000 in
theorem lk145_68 : xAt kT145 68 (.aload_n 1) 69 := ⟨1, rfl, Or.inr rfl, rfl⟩
set_option maxRecDepth 100000 in
theorem lk145_69 : xAt kT145 69 (.getfield 279) 72 := ⟨3, rfl, Or.inr rfl, rfl⟩
set_option maxRecDepth 100000 in
theorem lk145_72 : xAt kT145 72 (.invokevirtual 282) 75 := ⟨3, rfl, Or.inr rfl, rfl⟩
set_option maxRecDepth 100000 in
theorem lk145_75 : xAt kT145 75 (.aload_n 0) 76 := ⟨1, rfl, Or.inr rfl, rfl⟩
set_option maxRecDepth 100000 in
theorem lk145_76 : xAt kT145 76 (.getfield 72) 79 := ⟨3, rfl, Or.inr rfl, rfl⟩
set_option maxRecDepth 100000 in
theorem lk145_79 : xAt kT145 79 (.aload_n 0) 80 := ⟨1, rfl, Or.inr rfl, rfl⟩
set_option maxRecDepth 100000 in
theorem lk145_80 : xAt kT145 80 (.getfield 72) 83 := ⟨3, rfl, Or.inr rfl, rfl⟩
set_option maxRecDepth 100000 in
theorem lk145_83 : xAt kT145 83 (.getfield 100) 86 := ⟨3, rfl, Or.inr rfl, rfl⟩
set_option maxRecDepth 100000 in
theorem lk145_86 : xAt kT145 86 (.putfield 91) 89 := ⟨3, rfl, Or.inr rfl, rfl⟩
set_option maxRecDepth 100000 in
theorem lk145_89 : xAt kT145 89 (.aload_n 0) 90 := ⟨1, rfl, Or.inr rfl, rfl⟩
set_option maxRecDepth 100000 in
theorem lk145_90 : xAt kT145 90 (.getfield 72) 93 := ⟨3, rfl, Or.inr rfl, rfl⟩
set_option maxRecDepth 100000 in
theorem lk145_93 : xAt kT145 93 (.aload_n 0) 94 := ⟨1, rfl, Or.inr rfl, rfl⟩
set_option maxRecDepth 100000 in
theorem lk145_94 : xAt kT145 94 (.getfield 72) 97 := ⟨3, rfl, Or.inr rfl, rfl⟩
set_option maxRecDepth 100000 in
theorem lk145_97 : xAt kT145 97 (.getfield 100) 100 := ⟨3, rfl, Or.inr rfl, rfl⟩
set_option maxRecDepth 100000 in
theorem lk145_100 : xAt kT145 100 (.putfield 94) 103 := ⟨3, rfl, Or.inr rfl, rfl⟩
set_option maxRecDepth 100000 in
theorem lk145_103 : xAt kT145 103 (.iconst 0) 104 := ⟨1, rfl, Or.inr rfl, rfl⟩
set_option maxRecDepth 100000 in
theorem lk145_104 : xAt kT145 104 (.istore_n 1) 105 := ⟨1, rfl, Or.inr rfl, rfl⟩
set_option maxRecDepth 100000 in
theorem lk145_105 : xAt kT145 105 (.iload_n 1) 106 := ⟨1, rfl, Or.inr rfl, rfl⟩
set_option maxRecDepth 100000 in
theorem lk145_106 : xAt kT145 106 (.aload_n 0) 107 := ⟨1, rfl, Or.inr rfl, rfl⟩
set_option maxRecDepth 100000 in
theorem lk145_107 : xAt kT145 107 (.getfield 12) 110 := ⟨3, rfl, Or.inr rfl, rfl⟩
set_option maxRecDepth 100000 in
theorem lk145_110 : xAt kT145 110 (.getfield 286) 113 := ⟨3, rfl, Or.inr rfl, rfl⟩
set_option maxRecDepth 100000 in
theorem lk145_113 : xAt kT145 113 (.if_icmp .ge 75) 116 := ⟨3, rfl, Or.inr rfl, rfl⟩
set_option maxRecDepth 100000 in
theorem lk145_116 : xAt kT145 116 (.aload_n 0) 117 := ⟨1, rfl, Or.inr rfl, rfl⟩
set_option maxRecDepth 100000 in
theorem lk145_117 : xAt kT145 117 (.getfield 12) 120 := ⟨3, rfl, Or.inr rfl, rfl⟩
set_option maxRecDepth 100000 in
theorem lk145_120 : xAt kT145 120 (.getfield 259) 123 := ⟨3, rfl, Or.inr rfl, rfl⟩
set_option maxRecDepth 100000 in
theorem lk145_123 : xAt kT145 123 (.aload_n 0) 124 := ⟨1, rfl, Or.inr rfl, rfl⟩
set_option maxRecDepth 100000 in
theorem lk145_124 : xAt kT145 124 (.getfield 12) 127 := ⟨3, rfl, Or.inr rfl, rfl⟩
set_option maxRecDepth 100000 in
theorem lk145_127 : xAt kT145 127 (.getfield 289) 130 := ⟨3, rfl, Or.inr rfl, rfl⟩
set_option maxRecDepth 100000 in
theorem lk145_130 : xAt kT145 130 (.iload_n 1) 131 := ⟨1, rfl, Or.inr rfl, rfl⟩
set_option maxRecDepth 100000 in
theorem lk145_131 : xAt kT145 131 (.iaload) 132 := ⟨1, rfl, Or.inr rfl, rfl⟩
set_option maxRecDepth 100000 in
theorem lk145_132 : xAt kT145 132 (.aaload) 133 := ⟨1, rfl, Or.inr rfl, rfl⟩
set_option maxRecDepth 100000 in
theorem lk145_133 : xAt kT145 133 (.astore_n 2) 134 := ⟨1, rfl, Or.inr rfl, rfl⟩
set_option maxRecDepth 100000 in
theorem lk145_134 : xAt kT145 134 (.iconst 0) 135 := ⟨1, rfl, Or.inr rfl, rfl⟩
set_option maxRecDepth 100000 in
theorem lk145_135 : xAt kT145 135 (.aload_n 0) 136 := ⟨1, rfl, Or.inr rfl, rfl⟩
set_option maxRecDepth 100000 in
theorem lk145_136 : xAt kT145 136 (.getfield 72) 139 := ⟨3, rfl, Or.inr rfl, rfl⟩
set_option maxRecDepth 100000 in
theorem lk145_139 : xAt kT145 139 (.getfield 100) 142 := ⟨3, rfl, Or.inr rfl, rfl⟩
set_option maxRecDepth 100000 in
theorem lk145_142 : xAt kT145 142 (.iconst 1) 143 := ⟨1, rfl, Or.inr rfl, rfl⟩
set_option maxRecDepth 100000 in
theorem lk145_143 : xAt kT145 143 (.iadd) 144 := ⟨1, rfl, Or.inr rfl, rfl⟩
set_option maxRecDepth 100000 in
theorem lk145_144 : xAt kT145 144 (.aload_n 2) 145 := ⟨1, rfl, Or.inr rfl, rfl⟩
set_option maxRecDepth 100000 in
theorem lk145_145 : xAt kT145 145 (.getfield 263) 148 := ⟨3, rfl, Or.inr rfl, rfl⟩
set_option maxRecDepth 100000 in
theorem lk145_148 : xAt kT145 148 (.isub) 149 := ⟨1, rfl, Or.inr rfl, rfl⟩
set_option maxRecDepth 100000 in
theorem lk145_149 : xAt kT145 149 (.invokestatic 293) 152 := ⟨3, rfl, Or.inr rfl, rfl⟩
set_option maxRecDepth 100000 in
theorem lk145_152 : xAt kT145 152 (.istore_n 3) 153 := ⟨1, rfl, Or.inr rfl, rfl⟩
set_option maxRecDepth 100000 in
theorem lk145_153 : xAt kT145 153 (.iload_n 3) 154 := ⟨1, rfl, Or.inr rfl, rfl⟩
set_option maxRecDepth 100000 in
theorem lk145_154 : xAt kT145 154 (.aload_n 2) 155 := ⟨1, rfl, Or.inr rfl, rfl⟩
set_option maxRecDepth 100000 in
theorem lk145_155 : xAt kT145 155 (.getfield 299) 158 := ⟨3, rfl, Or.inr rfl, rfl⟩
set_option maxRecDepth 100000 in
theorem lk145_158 : xAt kT145 158 (.if_icmp .ge 24) 161 := ⟨3, rfl, Or.inr rfl, rfl⟩
set_option maxRecDepth 100000 in
theorem lk145_161 : xAt kT145 161 (.aload_n 0) 162 := ⟨1, rfl, Or.inr rfl, rfl⟩
set_option maxRecDepth 100000 in
theorem lk145_162 : xAt kT145 162 (.getfield 72) 165 := ⟨3, rfl, Or.inr rfl, rfl⟩
set_option maxRecDepth 100000 in
theorem lk145_165 : xAt kT145 165 (.aload_n 2) 166 := ⟨1, rfl, Or.inr rfl, rfl⟩
set_option maxRecDepth 100000 in
theorem lk145_166 : xAt kT145 166 (.getfield 302) 169 := ⟨3, rfl, Or.inr rfl, rfl⟩
set_option maxRecDepth 100000 in
theorem lk145_169 : xAt kT145 169 (.iload_n 3) 170 := ⟨1, rfl, Or.inr rfl, rfl⟩
set_option maxRecDepth 100000 in
theorem lk145_170 : xAt kT145 170 (.bipush 6) 172 := ⟨2, rfl, Or.inr rfl, rfl⟩
set_option maxRecDepth 100000 in
theorem lk145_172 : xAt kT145 172 (.imul) 173 := ⟨1, rfl, Or.inr rfl, rfl⟩
set_option maxRecDepth 100000 in
theorem lk145_173 : xAt kT145 173 (.invokevirtual 305) 176 := ⟨3, rfl, Or.inr rfl, rfl⟩
set_option maxRecDepth 100000 in
theorem lk145_176 : xAt kT145 176 (.iinc 3 1) 179 := ⟨3, rfl, Or.inr rfl, rfl⟩
set_option maxRecDepth 100000 in
theorem lk145_179 : xAt kT145 179 (.goto (-26)) 182 := ⟨3, rfl, Or.inr rfl, rfl⟩
set_option maxRecDepth 100000 in
theorem lk145_182 : xAt kT145 182 (.iinc 1 1) 185 := ⟨3, rfl, Or.inr rfl, rfl⟩
set_option maxRecDepth 100000 in
theorem lk145_185 : xAt kT145 185 (.goto (-80)) 188 := ⟨3, rfl, Or.inr rfl, rfl⟩
set_option maxRecDepth 100000 in
theorem lk145_188 : xAt kT145 188 (.aload_n 0) 189 := ⟨1, rfl, Or.inr rfl, rfl⟩
set_option maxRecDepth 100000 in
theorem lk145_189 : xAt kT145 189 (.getfield 72) 192 := ⟨3, rfl, Or.inr rfl, rfl⟩
set_option maxRecDepth 100000 in
theorem lk145_192 : xAt kT145 192 (.aload_n 0) 193 := ⟨1, rfl, Or.inr rfl, rfl⟩
set_option maxRecDepth 100000 in
theorem lk145_193 : xAt kT145 193 (.getfield 72) 196 := ⟨3, rfl, Or.inr rfl, rfl⟩
set_option maxRecDepth 100000 in
theorem lk145_196 : xAt kT145 196 (.getfield 103) 199 := ⟨3, rfl, Or.inr rfl, rfl⟩
set_option maxRecDepth 100000 in
theorem lk145_199 : xAt kT145 199 (.putfield 97) 202 := ⟨3, rfl, Or.inr rfl, rfl⟩
set_option maxRecDepth 100000 in
theorem lk145_202 : xAt kT145 202 (.return_) 203 := ⟨1, rfl, Or.inr rfl, rfl⟩
set_option maxRecDepth 100000 in
theorem lk146_0 : xAt kT146 0 (.aload_n 0) 1 := ⟨1, rfl, Or.inr rfl, rfl⟩
set_option maxRecDepth 100000 in
theorem lk146_1 : xAt kT146 1 (.getfield 12) 4 := ⟨3, rfl, Or.inr rfl, rfl⟩
set_option maxRecDepth 100000 in
theorem lk146_4 : xAt kT146 4 (.getfield 308) 7 := ⟨3, rfl, Or.inr rfl, rfl⟩
set_option maxRecDepth 100000 in
theorem lk146_7 : xAt kT146 7 (.iconst (-1)) 8 := ⟨1, rfl, Or.inr rfl, rfl⟩
set_option maxRecDepth 100000 in
theorem lk146_8 : xAt kT146 8 (.if_icmp .eq 7) 11 := ⟨3, rfl, Or.inr rfl, rfl⟩
set_option maxRecDepth 100000 in
theorem lk146_11 : xAt kT146 11 (.iconst 1) 12 := ⟨1, rfl, Or.inr rfl, rfl⟩
set_option maxRecDepth 100000 in
theorem lk146_12 : xAt kT146 12 (.goto 4) 15 := ⟨3, rfl, Or.inr rfl, rfl⟩
set_option maxRecDepth 100000 in
theorem lk146_15 : xAt kT146 15 (.iconst 0) 16 := ⟨1, rfl, Or.inr rfl, rfl⟩
set_option maxRecDepth 100000 in
theorem lk146_16 : xAt kT146 16 (.istore_n 1) 17 := ⟨1, rfl, Or.inr rfl, rfl⟩
set_option maxRecDepth 100000 in
theorem lk146_17 : xAt kT146 17 (.aload_n 0) 18 := ⟨1, rfl, Or.inr rfl, rfl⟩
set_option maxRecDepth 100000 in
theorem lk146_18 : xAt kT146 18 (.iload_n 1) 19 := ⟨1, rfl, Or.inr rfl, rfl⟩
set_option maxRecDepth 100000 in
theorem lk146_19 : xAt kT146 19 (.ifCond .eq 24) 22 := ⟨3, rfl, Or.inr rfl, rfl⟩
set_option maxRecDepth 100000 in
theorem lk146_22 : xAt kT146 22 (.aload_n 0) 23 := ⟨1, rfl, Or.inr rfl, rfl⟩
set_option maxRecDepth 100000 in
theorem lk146_23 : xAt kT146 23 (.getfield 12) 26 := ⟨3, rfl, Or.inr rfl, rfl⟩
set_option maxRecDepth 100000 in
theorem lk146_26 : xAt kT146 26 (.getfield 259) 29 := ⟨3, rfl, Or.inr rfl, rfl⟩
set_option maxRecDepth 100000 in
theorem lk146_29 : xAt kT146 29 (.aload_n 0) 30 := ⟨1, rfl, Or.inr rfl, rfl⟩
set_option maxRecDepth 100000 in
theorem lk146_30 : xAt kT146 30 (.getfield 12) 33 := ⟨3, rfl, Or.inr rfl, rfl⟩
set_option maxRecDepth 100000 in
theorem lk146_33 : xAt kT146 33 (.getfield 308) 36 := ⟨3, rfl, Or.inr rfl, rfl⟩
set_option maxRecDepth 100000 in
theorem lk146_36 : xAt kT146 36 (.aaload) 37 := ⟨1, rfl, Or.inr rfl, rfl⟩
set_option maxRecDepth 100000 in
theorem lk146_37 : xAt kT146 37 (.getfield 268) 40 := ⟨3, rfl, Or.inr rfl, rfl⟩
set_option maxRecDepth 100000 in
theorem lk146_40 : xAt kT146 40 (.goto 4) 43 := ⟨3, rfl, Or.inr rfl, rfl⟩
set_option maxRecDepth 100000 in
theorem lk146_43 : xAt kT146 43 (.iconst 0) 44 := ⟨1, rfl, Or.inr rfl, rfl⟩
set_option maxRecDepth 100000 in
theorem lk146_44 : xAt kT146 44 (.putfield 88) 47 := ⟨3, rfl, Or.inr rfl, rfl⟩
set_option maxRecDepth 100000 in
theorem lk146_47 : xAt kT146 47 (.aload_n 0) 48 := ⟨1, rfl, Or.inr rfl, rfl⟩
set_option maxRecDepth 100000 in
theorem lk146_48 : xAt kT146 48 (.iload_n 1) 49 := ⟨1, rfl, Or.inr rfl, rfl⟩
set_option maxRecDepth 100000 in
theorem lk146_49 : xAt kT146 49 (.ifCond .eq 24) 52 := ⟨3, rfl, Or.inr rfl, rfl⟩
set_option maxRecDepth 100000 in
theorem lk146_52 : xAt kT146 52 (.aload_n 0) 53 := ⟨1, rfl, Or.inr rfl, rfl⟩
set_option maxRecDepth 100000 in
theorem lk146_53 : xAt kT146 53 (.getfield 12) 56 := ⟨3, rfl, Or.inr rfl, rfl⟩
set_option maxRecDepth 100000 in
theorem lk146_56 : xAt kT146 56 (.getfield 259) 59 := ⟨3, rfl, Or.inr rfl, rfl⟩
set_option maxRecDepth 100000 in
theorem lk146_59 : xAt kT146 59 (.aload_n 0) 60 := ⟨1, rfl, Or.inr rfl, rfl⟩
set_option maxRecDepth 100000 in
theorem lk146_60 : xAt kT146 60 (.getfield 12) 63 := ⟨3, rfl, Or.inr rfl, rfl⟩
set_option maxRecDepth 100000 in
theorem lk146_63 : xAt kT146 63 (.getfield 308) 66 := ⟨3, rfl, Or.inr rfl, rfl⟩
set_option maxRecDepth 100000 in
theorem lk146_66 : xAt kT146 66 (.aaload) 67 := ⟨1, rfl, Or.inr rfl, rfl⟩
set_option maxRecDepth 100000 in
theorem lk146_67 : xAt kT146 67 (.getfield 269) 70 := ⟨3, rfl, Or.inr rfl, rfl⟩
set_option maxRecDepth 100000 in
theorem lk146_70 : xAt kT146 70 (.goto 4) 73 := ⟨3, rfl, Or.inr rfl, rfl⟩
set_option maxRecDepth 100000 in
theorem lk146_73 : xAt kT146 73 (.iconst (-1)) 74 := ⟨1, rfl, Or.inr rfl, rfl⟩
set_option maxRecDepth 100000 in
theorem lk146_74 : xAt kT146 74 (.putfield 43) 77 := ⟨3, rfl, Or.inr rfl, rfl⟩
set_option maxRecDepth 100000 in
theorem lk146_77 : xAt kT146 77 (.aload_n 0) 78 := ⟨1, rfl, Or.inr rfl, rfl⟩
set_option maxRecDepth 100000 in
theorem lk146_78 : xAt kT146 78 (.getfield 72) 81 := ⟨3, rfl, Or.inr rfl, rfl⟩
set_option maxRecDepth 100000 in
theorem lk146_81 : xAt kT146 81 (.aload_n 0) 82 := ⟨1, rfl, Or.inr rfl, rfl⟩
set_option maxRecDepth 100000 in
theorem lk146_82 : xAt kT146 82 (.getfield 72) 85 := ⟨3, rfl, Or.inr rfl, rfl⟩
set_option maxRecDepth 100000 in
theorem lk146_85 : xAt kT146 85 (.getfield 103) 88 := ⟨3, rfl, Or.inr rfl, rfl⟩
set_option maxRecDepth 100000 in
theorem lk146_88 : xAt kT146 88 (.invokevirtual 311) 91 := ⟨3, rfl, Or.inr rfl, rfl⟩
set_option maxRecDepth 100000 in
theorem lk146_91 : xAt kT146 91 (.istore_n 2) 92 := ⟨1, rfl, Or.inr rfl, rfl⟩
set_option maxRecDepth 100000 in
theorem lk146_92 : xAt kT146 92 (.iload_n 2) 93 := ⟨1, rfl, Or.inr rfl, rfl⟩
set_option maxRecDepth 100000 in
theorem lk146_93 : xAt kT146 93 (.aload_n 0) 94 := ⟨1, rfl, Or.inr rfl, rfl⟩
set_option maxRecDepth 100000 in
theorem lk146_94 : xAt kT146 94 (.getfield 88) 97 := ⟨3, rfl, Or.inr rfl, rfl⟩
set_option maxRecDepth 100000 in
theorem lk146_97 : xAt kT146 97 (.if_icmp .le 28) 100 := ⟨3, rfl, Or.inr rfl, rfl⟩
set_option maxRecDepth 100000 in
theorem lk146_100 : xAt kT146 100 (.aload_n 0) 101 := ⟨1, rfl, Or.inr rfl, rfl⟩
set_option maxRecDepth 100000 in
theorem lk146_101 : xAt kT146 101 (.iload_n 2) 102 := ⟨1, rfl, Or.inr rfl, rfl⟩
set_option maxRecDepth 100000 in
theorem lk146_102 : xAt kT146 102 (.putfield 88) 105 := ⟨3, rfl, Or.inr rfl, rfl⟩
set_option maxRecDepth 100000 in
theorem lk146_105 : xAt kT146 105 (.aload_n 0) 106 := ⟨1, rfl, Or.inr rfl, rfl⟩
set_option maxRecDepth 100000 in
theorem lk146_106 : xAt kT146 106 (.iconst (-1)) 107 := ⟨1, rfl, Or.inr rfl, rfl⟩
set_option maxRecDepth 100000 in
theorem lk146_107 : xAt kT146 107 (.putfield 43) 110 := ⟨3, rfl, Or.inr rfl, rfl⟩
set_option maxRecDepth 100000 in
theorem lk146_110 : xAt kT146 110 (.aload_n 0) 111 := ⟨1, rfl, Or.inr rfl, rfl⟩
set_option maxRecDepth 100000 in
theorem lk146_111 : xAt kT146 111 (.getfield 12) 114 := ⟨3, rfl, Or.inr rfl, rfl⟩
set_option maxRecDepth 100000 in
theorem lk146_114 : xAt kT146 114 (.aload_n 0) 115 := ⟨1, rfl, Or.inr rfl, rfl⟩
set_option maxRecDepth 100000 in
theorem lk146_115 : xAt kT146 115 (.getfield 88) 118 := ⟨3, rfl, Or.inr rfl, rfl⟩
set_option maxRecDepth 100000 in
theorem lk146_118 : xAt kT146 118 (.aload_n 0) 119 := ⟨1, rfl, Or.inr rfl, rfl⟩
set_option maxRecDepth 100000 in
theorem lk146_119 : xAt kT146 119 (.getfield 43) 122 := ⟨3, rfl, Or.inr rfl, rfl⟩
set_option maxRecDepth 100000 in
theorem lk146_122 : xAt kT146 122 (.invokevirtual 314) 125 := ⟨3, rfl, Or.inr rfl, rfl⟩
set_option maxRecDepth 100000 in
theorem lk146_125 : xAt kT146 125 (.return_) 126 := ⟨1, rfl, Or.inr rfl, rfl⟩
set_option maxRecDepth 100000 in
theorem lk129_0 : xAt kT129 0 (.aload_n 0) 1 := ⟨1, rfl, Or.inr rfl, rfl⟩
set_option maxRecDepth 100000 in
theorem lk129_1 : xAt kT129 1 (.getfield 12) 4 := ⟨3, rfl, Or.inr rfl, rfl⟩
set_option maxRecDepth 100000 in
theorem lk129_4 : xAt kT129 4 (.invokevirtual 229) 7 := ⟨3, rfl, Or.inr rfl, rfl⟩
set_option maxRecDepth 100000 in
theorem lk129_7 : xAt kT129 7 (.aload_n 0) 8 := ⟨1, rfl, Or.inr rfl, rfl⟩
set_option maxRecDepth 100000 in
theorem lk129_8 : xAt kT129 8 (.invokevirtual 232) 11 := ⟨3, rfl, Or.inr rfl, rfl⟩
set_option maxRecDepth 100000 in
theorem lk129_11 : xAt kT129 11 (.aload_n 0) 12 := ⟨1, rfl, Or.inr rfl, rfl⟩
set_option maxRecDepth 100000 in
theorem lk129_12 : xAt kT129 12 (.invokevirtual 235) 15 := ⟨3, rfl, Or.inr rfl, rfl⟩
set_option maxRecDepth 100000 in
theorem lk129_15 : xAt kT129 15 (.aload_n 0) 16 := ⟨1, rfl, Or.inr rfl, rfl⟩
set_option maxRecDepth 100000 in
theorem lk129_16 : xAt kT129 16 (.getfield 12) 19 := ⟨3, rfl, Or.inr rfl, rfl⟩
set_option maxRecDepth 100000 in
theorem lk129_19 : xAt kT129 19 (.invokevirtual 220) 22 := ⟨3, rfl, Or.inr rfl, rfl⟩
set_option maxRecDepth 100000 in
theorem lk129_22 : xAt kT129 22 (.aload_n 0) 23 := ⟨1, rfl, Or.inr rfl, rfl⟩
set_option maxRecDepth 100000 in
theorem lk129_23 : xAt kT129 23 (.iconst 1) 24 := ⟨1, rfl, Or.inr rfl, rfl⟩
set_option maxRecDepth 100000 in
theorem lk129_24 : xAt kT129 24 (.putfield 39) 27 := ⟨3, rfl, Or.inr rfl, rfl⟩
set_option maxRecDepth 100000 in
theorem lk129_27 : xAt kT129 27 (.aload_n 0) 28 := ⟨1, rfl, Or.inr rfl, rfl⟩
set_option maxRecDepth 100000 in
theorem lk129_28 : xAt kT129 28 (.iconst 0) 29 := ⟨1, rfl, Or.inr rfl, rfl⟩
set_option maxRecDepth 100000 in
theorem lk129_29 : xAt kT129 29 (.putfield 115) 32 := ⟨3, rfl, Or.inr rfl, rfl⟩
set_option maxRecDepth 100000 in
theorem lk129_32 : xAt kT129 32 (.aload_n 0) 33 := ⟨1, rfl, Or.inr rfl, rfl⟩
set_option maxRecDepth 100000 in
theorem lk129_33 : xAt kT129 33 (.iconst 0) 34 := ⟨1, rfl, Or.inr rfl, rfl⟩
set_option maxRecDepth 100000 in
theorem lk129_34 : xAt kT129 34 (.putfield 85) 37 := ⟨3, rfl, Or.inr rfl, rfl⟩
set_option maxRecDepth 100000 in
theorem lk129_37 : xAt kT129 37 (.aload_n 0) 38 := ⟨1, rfl, Or.inr rfl, rfl⟩
set_option maxRecDepth 100000 in
theorem lk129_38 : xAt kT129 38 (.iconst (-1)) 39 := ⟨1, rfl, Or.inr rfl, rfl⟩
set_option maxRecDepth 100000 in
theorem lk129_39 : xAt kT129 39 (.putfield 47) 42 := ⟨3, rfl, Or.inr rfl, rfl⟩
set_option maxRecDepth 100000 in
theorem lk129_42 : xAt kT129 42 (.aload_n 0) 43 := ⟨1, rfl, Or.inr rfl, rfl⟩
set_option maxRecDepth 100000 in
theorem lk129_43 : xAt kT129 43 (.iconst (-1)) 44 := ⟨1, rfl, Or.inr rfl, rfl⟩
set_option maxRecDepth 100000 in
theorem lk129_44 : xAt kT129 44 (.putfield 50) 47 := ⟨3, rfl, Or.inr rfl, rfl⟩
set_option maxRecDepth 100000 in
theorem lk129_47 : xAt kT129 47 (.aload_n 0) 48 := ⟨1, rfl, Or.inr rfl, rfl⟩
set_option maxRecDepth 100000 in
theorem lk129_48 : xAt kT129 48 (.iconst 0) 49 := ⟨1, rfl, Or.inr rfl, rfl⟩
set_option maxRecDepth 100000 in
theorem lk129_49 : xAt kT129 49 (.putfield 109) 52 := ⟨3, rfl, Or.inr rfl, rfl⟩
set_option maxRecDepth 100000 in
theorem lk129_52 : xAt kT129 52 (.aload_n 0) 53 := ⟨1, rfl, Or.inr rfl, rfl⟩
set_option maxRecDepth 100000 in
theorem lk129_53 : xAt kT129 53 (.iconst (-1)) 54 := ⟨1, rfl, Or.inr rfl, rfl⟩
set_option maxRecDepth 100000 in
theorem lk129_54 : xAt kT129 54 (.putfield 53) 57 := ⟨3, rfl, Or.inr rfl, rfl⟩
set_option maxRecDepth 100000 in
theorem lk129_57 : xAt kT129 57 (.aload_n 0) 58 := ⟨1, rfl, Or.inr rfl, rfl⟩
set_option maxRecDepth 100000 in
theorem lk129_58 : xAt kT129 58 (.iconst 0) 59 := ⟨1, rfl, Or.inr rfl, rfl⟩
set_option maxRecDepth 100000 in
theorem lk129_59 : xAt kT129 59 (.putfield 238) 62 := ⟨3, rfl, Or.inr rfl, rfl⟩
set_option maxRecDepth 100000 in
theorem lk129_62 : xAt kT129 62 (.aload_n 0) 63 := ⟨1, rfl, Or.inr rfl, rfl⟩
set_option maxRecDepth 100000 in
theorem lk129_63 : xAt kT129 63 (.iconst 0) 64 := ⟨1, rfl, Or.inr rfl, rfl⟩
set_option maxRecDepth 100000 in
theorem lk129_64 : xAt kT129 64 (.putfield 146) 67 := ⟨3, rfl, Or.inr rfl, rfl⟩
set_option maxRecDepth 100000 in
theorem lk129_67 : xAt kT129 67 (.aload_n 0) 68 := ⟨1, rfl, Or.inr rfl, rfl⟩
set_option maxRecDepth 100000 in
theorem lk129_68 : xAt kT129 68 (.getfield 21) 71 := ⟨3, rfl, Or.inr rfl, rfl⟩
set_option maxRecDepth 100000 in
theorem lk129_71 : xAt kT129 71 (.aload_n 0) 72 := ⟨1, rfl, Or.inr rfl, rfl⟩
set_option maxRecDepth 100000 in
theorem lk129_72 : xAt kT129 72 (.getfield 72) 75 := ⟨3, rfl, Or.inr rfl, rfl⟩
set_option maxRecDepth 100000 in
theorem lk129_75 : xAt kT129 75 (.getfield 103) 78 := ⟨3, rfl, Or.inr rfl, rfl⟩
set_option maxRecDepth 100000 in
theorem lk129_78 : xAt kT129 78 (.aload_n 0) 79 := ⟨1, rfl, Or.inr rfl, rfl⟩
set_option maxRecDepth 100000 in
theorem lk129_79 : xAt kT129 79 (.getfield 63) 82 := ⟨3, rfl, Or.inr rfl, rfl⟩
set_option maxRecDepth 100000 in
theorem lk129_82 : xAt kT129 82 (.getfield 241) 85 := ⟨3, rfl, Or.inr rfl, rfl⟩
set_option maxRecDepth 100000 in
theorem lk129_85 : xAt kT129 85 (.invokevirtual 244) 88 := ⟨3, rfl, Or.inr rfl, rfl⟩
set_option maxRecDepth 100000 in
theorem lk129_88 : xAt kT129 88 (.aload_n 0) 89 := ⟨1, rfl, Or.inr rfl, rfl⟩
set_option maxRecDepth 100000 in
theorem lk129_89 : xAt kT129 89 (.getfield 28) 92 := ⟨3, rfl, Or.inr rfl, rfl⟩
set_option maxRecDepth 100000 in
theorem lk129_92 : xAt kT129 92 (.invokevirtual 248) 95 := ⟨3, rfl, Or.inr rfl, rfl⟩
set_option maxRecDepth 100000 in
theorem lk129_95 : xAt kT129 95 (.aload_n 0) 96 := ⟨1, rfl, Or.inr rfl, rfl⟩
set_option maxRecDepth 100000 in
theorem lk129_96 : xAt kT129 96 (.getfield 63) 99 := ⟨3, rfl, Or.inr rfl, rfl⟩
set_option maxRecDepth 100000 in
theorem lk129_99 : xAt kT129 99 (.aload_n 0) 100 := ⟨1, rfl, Or.inr rfl, rfl⟩
set_option maxRecDepth 100000 in
theorem lk129_100 : xAt kT129 100 (.getfield 60) 103 := ⟨3, rfl, Or.inr rfl, rfl⟩
set_option maxRecDepth 100000 in
theorem lk129_103 : xAt kT129 103 (.invokevirtual 251) 106 := ⟨3, rfl, Or.inr rfl, rfl⟩
set_option maxRecDepth 100000 in
theorem lk129_106 : xAt kT129 106 (.return_) 107 := ⟨1, rfl, Or.inr rfl, rfl⟩
set_option maxRecDepth 100000 in
theorem lk53_0 : xAt kT53 0 (.aload_n 0) 1 := ⟨1, rfl, Or.inr rfl, rfl⟩
set_option maxRecDepth 100000 in
theorem lk53_1 : xAt kT53 1 (.aload_n 0) 2 := ⟨1, rfl, Or.inr rfl, rfl⟩
set_option maxRecDepth 100000 in
theorem lk53_2 : xAt kT53 2 (.getfield 34) 5 := ⟨3, rfl, Or.inr rfl, rfl⟩
set_option maxRecDepth 100000 in
theorem lk53_5 : xAt kT53 5 (.iconst 2) 6 := ⟨1, rfl, Or.inr rfl, rfl⟩
set_option maxRecDepth 100000 in
theorem lk53_6 : xAt kT53 6 (.if_icmp .ne 7) 9 := ⟨3, rfl, Or.inr rfl, rfl⟩
set_option maxRecDepth 100000 in
theorem lk53_9 : xAt kT53 9 (.iconst 3) 10 := ⟨1, rfl, Or.inr rfl, rfl⟩
set_option maxRecDepth 100000 in
theorem lk53_10 : xAt kT53 10 (.goto 4) 13 := ⟨3, rfl, Or.inr rfl, rfl⟩
set_option maxRecDepth 100000 in
theorem lk53_13 : xAt kT53 13 (.iconst 2) 14 := ⟨1, rfl, Or.inr rfl, rfl⟩
set_option maxRecDepth 100000 in
theorem lk53_14 : xAt kT53 14 (.putfield 34) 17 := ⟨3, rfl, Or.inr rfl, rfl⟩
set_option maxRecDepth 100000 in
theorem lk53_17 : xAt kT53 17 (.aload_n 0) 18 := ⟨1, rfl, Or.inr rfl, rfl⟩
set_option maxRecDepth 100000 in
theorem lk53_18 : xAt kT53 18 (.getfield 11) 21 := ⟨3, rfl, Or.inr rfl, rfl⟩
set_option maxRecDepth 100000 in
theorem lk53_21 : xAt kT53 21 (.aload_n 0) 22 := ⟨1, rfl, Or.inr rfl, rfl⟩
set_option maxRecDepth 100000 in
theorem lk53_22 : xAt kT53 22 (.getfield 34) 25 := ⟨3, rfl, Or.inr rfl, rfl⟩
set_option maxRecDepth 100000 in
theorem lk53_25 : xAt kT53 25 (.aaload) 26 := ⟨1, rfl, Or.inr rfl, rfl⟩
set_option maxRecDepth 100000 in
theorem lk53_26 : xAt kT53 26 (.astore 6) 28 := ⟨2, rfl, Or.inr rfl, rfl⟩
set_option maxRecDepth 100000 in
theorem lk53_28 : xAt kT53 28 (.aload 6) 30 := ⟨2, rfl, Or.inr rfl, rfl⟩
set_option maxRecDepth 100000 in
theorem lk53_30 : xAt kT53 30 (.bipush 20) 32 := ⟨2, rfl, Or.inr rfl, rfl⟩
set_option maxRecDepth 100000 in
theorem lk53_32 : xAt kT53 32 (.iload 5) 34 := ⟨2, rfl, Or.inr rfl, rfl⟩
set_option maxRecDepth 100000 in
theorem lk53_34 : xAt kT53 34 (.iadd) 35 := ⟨1, rfl, Or.inr rfl, rfl⟩
set_option maxRecDepth 100000 in
theorem lk53_35 : xAt kT53 35 (.iload_n 1) 36 := ⟨1, rfl, Or.inr rfl, rfl⟩
set_option maxRecDepth 100000 in
theorem lk53_36 : xAt kT53 36 (.iload_n 2) 37 := ⟨1, rfl, Or.inr rfl, rfl⟩
set_option maxRecDepth 100000 in
theorem lk53_37 : xAt kT53 37 (.iload_n 3) 38 := ⟨1, rfl, Or.inr rfl, rfl⟩
set_option maxRecDepth 100000 in
theorem lk53_38 : xAt kT53 38 (.invokevirtual 51) 41 := ⟨3, rfl, Or.inr rfl, rfl⟩
set_option maxRecDepth 100000 in
theorem lk53_41 : xAt kT53 41 (.aload 6) 43 := ⟨2, rfl, Or.inr rfl, rfl⟩
set_option maxRecDepth 100000 in
theorem lk53_43 : xAt kT53 43 (.iload 5) 45 := ⟨2, rfl, Or.inr rfl, rfl⟩
set_option maxRecDepth 100000 in
theorem lk53_45 : xAt kT53 45 (.invokevirtual 55) 48 := ⟨3, rfl, Or.inr rfl, rfl⟩
set_option maxRecDepth 100000 in
theorem lk53_48 : xAt kT53 48 (.aload 4) 50 := ⟨2, rfl, Or.inr rfl, rfl⟩
set_option maxRecDepth 100000 in
theorem lk53_50 : xAt kT53 50 (.iconst 0) 51 := ⟨1, rfl, Or.inr rfl, rfl⟩
set_option maxRecDepth 100000 in
theorem lk53_51 : xAt kT53 51 (.aload 6) 53 := ⟨2, rfl, Or.inr rfl, rfl⟩
set_option maxRecDepth 100000 in
theorem lk53_53 : xAt kT53 53 (.getfield 59) 56 := ⟨3, rfl, Or.inr rfl, rfl⟩
set_option maxRecDepth 100000 in
theorem lk53_56 : xAt kT53 56 (.iconst 0) 57 := ⟨1, rfl, Or.inr rfl, rfl⟩
set_option maxRecDepth 100000 in
theorem lk53_57 : xAt kT53 57 (.iload 5) 59 := ⟨2, rfl, Or.inr rfl, rfl⟩
set_option maxRecDepth 100000 in
theorem lk53_59 : xAt kT53 59 (.invokestatic 63) 62 := ⟨3, rfl, Or.inr rfl, rfl⟩
set_option maxRecDepth 100000 in
theorem lk53_62 : xAt kT53 62 (.aload 6) 64 := ⟨2, rfl, Or.inr rfl, rfl⟩
set_option maxRecDepth 100000 in
theorem lk53_64 : xAt kT53 64 (.iload 5) 66 := ⟨2, rfl, Or.inr rfl, rfl⟩
set_option maxRecDepth 100000 in
theorem lk53_66 : xAt kT53 66 (.putfield 69) 69 := ⟨3, rfl, Or.inr rfl, rfl⟩
set_option maxRecDepth 100000 in
theorem lk53_69 : xAt kT53 69 (.aload_n 0) 70 := ⟨1, rfl, Or.inr rfl, rfl⟩
set_option maxRecDepth 100000 in
theorem lk53_70 : xAt kT53 70 (.getfield 20) 73 := ⟨3, rfl, Or.inr rfl, rfl⟩
set_option maxRecDepth 100000 in
theorem lk53_73 : xAt kT53 73 (.aload_n 0) 74 := ⟨1, rfl, Or.inr rfl, rfl⟩
set_option maxRecDepth 100000 in
theorem lk53_74 : xAt kT53 74 (.getfield 34) 77 := ⟨3, rfl, Or.inr rfl, rfl⟩
set_option maxRecDepth 100000 in
theorem lk53_77 : xAt kT53 77 (.aload 6) 79 := ⟨2, rfl, Or.inr rfl, rfl⟩
set_option maxRecDepth 100000 in
theorem lk53_79 : xAt kT53 79 (.getfield 38) 82 := ⟨3, rfl, Or.inr rfl, rfl⟩
set_option maxRecDepth 100000 in
theorem lk53_82 : xAt kT53 82 (.iastore) 83 := ⟨1, rfl, Or.inr rfl, rfl⟩
set_option maxRecDepth 100000 in
theorem lk53_83 : xAt kT53 83 (.return_) 84 := ⟨1, rfl, Or.inr rfl, rfl⟩
set_option maxRecDepth 100000 in
theorem lk130_0 : xAt kT130 0 (.aload_n 0) 1 := ⟨1, rfl, Or.inr rfl, rfl⟩
set_option maxRecDepth 100000 in
theorem lk130_1 : xAt kT130 1 (.getfield 72) 4 := ⟨3, rfl, Or.inr rfl, rfl⟩
set_option maxRecDepth 100000 in
theorem lk130_4 : xAt kT130 4 (.getfield 94) 7 := ⟨3, rfl, Or.inr rfl, rfl⟩
set_option maxRecDepth 100000 in
theorem lk130_7 : xAt kT130 7 (.aload_n 0) 8 := ⟨1, rfl, Or.inr rfl, rfl⟩
set_option maxRecDepth 100000 in
theorem lk130_8 : xAt kT130 8 (.getfield 72) 11 := ⟨3, rfl, Or.inr rfl, rfl⟩
set_option maxRecDepth 100000 in
theorem lk130_11 : xAt kT130 11 (.getfield 100) 14 := ⟨3, rfl, Or.inr rfl, rfl⟩
set_option maxRecDepth 100000 in
theorem lk130_14 : xAt kT130 14 (.isub) 15 := ⟨1, rfl, Or.inr rfl, rfl⟩
set_option maxRecDepth 100000 in
theorem lk130_15 : xAt kT130 15 (.bipush 24) 17 := ⟨2, rfl, Or.inr rfl, rfl⟩
set_option maxRecDepth 100000 in
theorem lk130_17 : xAt kT130 17 (.if_icmp .ge 4) 20 := ⟨3, rfl, Or.inr rfl, rfl⟩
set_option maxRecDepth 100000 in
theorem lk130_20 : xAt kT130 20 (.return_) 21 := ⟨1, rfl, Or.inr rfl, rfl⟩
set_option maxRecDepth 100000 in
theorem lk130_21 : xAt kT130 21 (.aload_n 0) 22 := ⟨1, rfl, Or.inr rfl, rfl⟩
set_option maxRecDepth 100000 in
theorem lk130_22 : xAt kT130 22 (.getfield 72) 25 := ⟨3, rfl, Or.inr rfl, rfl⟩
set_option maxRecDepth 100000 in
theorem lk130_25 : xAt kT130 25 (.aload_n 0) 26 := ⟨1, rfl, Or.inr rfl, rfl⟩
set_option maxRecDepth 100000 in
theorem lk130_26 : xAt kT130 26 (.getfield 72) 29 := ⟨3, rfl, Or.inr rfl, rfl⟩
set_option maxRecDepth 100000 in
theorem lk130_29 : xAt kT130 29 (.getfield 94) 32 := ⟨3, rfl, Or.inr rfl, rfl⟩
set_option maxRecDepth 100000 in
theorem lk130_32 : xAt kT130 32 (.invokevirtual 311) 35 := ⟨3, rfl, Or.inr rfl, rfl⟩
set_option maxRecDepth 100000 in
theorem lk130_35 : xAt kT130 35 (.istore_n 1) 36 := ⟨1, rfl, Or.inr rfl, rfl⟩
set_option maxRecDepth 100000 in
theorem lk130_36 : xAt kT130 36 (.aload_n 0) 37 := ⟨1, rfl, Or.inr rfl, rfl⟩
set_option maxRecDepth 100000 in
theorem lk130_37 : xAt kT130 37 (.getfield 72) 40 := ⟨3, rfl, Or.inr rfl, rfl⟩
set_option maxRecDepth 100000 in
theorem lk130_40 : xAt kT130 40 (.aload_n 0) 41 := ⟨1, rfl, Or.inr rfl, rfl⟩
set_option maxRecDepth 100000 in
theorem lk130_41 : xAt kT130 41 (.getfield 72) 44 := ⟨3, rfl, Or.inr rfl, rfl⟩
set_option maxRecDepth 100000 in
theorem lk130_44 : xAt kT130 44 (.getfield 94) 47 := ⟨3, rfl, Or.inr rfl, rfl⟩
set_option maxRecDepth 100000 in
theorem lk130_47 : xAt kT130 47 (.invokevirtual 614) 50 := ⟨3, rfl, Or.inr rfl, rfl⟩
set_option maxRecDepth 100000 in
theorem lk130_50 : xAt kT130 50 (.istore_n 2) 51 := ⟨1, rfl, Or.inr rfl, rfl⟩
set_option maxRecDepth 100000 in
theorem lk130_51 : xAt kT130 51 (.aload_n 0) 52 := ⟨1, rfl, Or.inr rfl, rfl⟩
set_option maxRecDepth 100000 in
theorem lk130_52 : xAt kT130 52 (.getfield 81) 55 := ⟨3, rfl, Or.inr rfl, rfl⟩
set_option maxRecDepth 100000 in
theorem lk130_55 : xAt kT130 55 (.invokevirtual 617) 58 := ⟨3, rfl, Or.inr rfl, rfl⟩
set_option maxRecDepth 100000 in
theorem lk130_58 : xAt kT130 58 (.istore_n 3) 59 := ⟨1, rfl, Or.inr rfl, rfl⟩
set_option maxRecDepth 100000 in
theorem lk130_59 : xAt kT130 59 (.aload_n 0) 60 := ⟨1, rfl, Or.inr rfl, rfl⟩
set_option maxRecDepth 100000 in
theorem lk130_60 : xAt kT130 60 (.getfield 12) 63 := ⟨3, rfl, Or.inr rfl, rfl⟩
set_option maxRecDepth 100000 in
theorem lk130_63 : xAt kT130 63 (.aload_n 0) 64 := ⟨1, rfl, Or.inr rfl, rfl⟩
set_option maxRecDepth 100000 in
theorem lk130_64 : xAt kT130 64 (.getfield 72) 67 := ⟨3, rfl, Or.inr rfl, rfl⟩
set_option maxRecDepth 100000 in
theorem lk130_67 : xAt kT130 67 (.getfield 94) 70 := ⟨3, rfl, Or.inr rfl, rfl⟩
set_option maxRecDepth 100000 in
theorem lk130_70 : xAt kT130 70 (.iload_n 1) 71 := ⟨1, rfl, Or.inr rfl, rfl⟩
set_option maxRecDepth 100000 in
theorem lk130_71 : xAt kT130 71 (.iload_n 2) 72 := ⟨1, rfl, Or.inr rfl, rfl⟩
set_option maxRecDepth 100000 in
theorem lk130_72 : xAt kT130 72 (.aload_n 0) 73 := ⟨1, rfl, Or.inr rfl, rfl⟩
set_option maxRecDepth 100000 in
theorem lk130_73 : xAt kT130 73 (.getfield 81) 76 := ⟨3, rfl, Or.inr rfl, rfl⟩
set_option maxRecDepth 100000 in
theorem lk130_76 : xAt kT130 76 (.getfield 620) 79 := ⟨3, rfl, Or.inr rfl, rfl⟩
set_option maxRecDepth 100000 in
theorem lk130_79 : xAt kT130 79 (.iload_n 3) 80 := ⟨1, rfl, Or.inr rfl, rfl⟩
set_option maxRecDepth 100000 in
theorem lk130_80 : xAt kT130 80 (.invokevirtual 532) 83 := ⟨3, rfl, Or.inr rfl, rfl⟩
set_option maxRecDepth 100000 in
theorem lk130_83 : xAt kT130 83 (.aload_n 0) 84 := ⟨1, rfl, Or.inr rfl, rfl⟩
set_option maxRecDepth 100000 in
theorem lk130_84 : xAt kT130 84 (.getfield 72) 87 := ⟨3, rfl, Or.inr rfl, rfl⟩
set_option maxRecDepth 100000 in
theorem lk130_87 : xAt kT130 87 (.aload_n 0) 88 := ⟨1, rfl, Or.inr rfl, rfl⟩
set_option maxRecDepth 100000 in
theorem lk130_88 : xAt kT130 88 (.getfield 72) 91 := ⟨3, rfl, Or.inr rfl, rfl⟩
set_option maxRecDepth 100000 in
theorem lk130_91 : xAt kT130 91 (.getfield 94) 94 := ⟨3, rfl, Or.inr rfl, rfl⟩
set_option maxRecDepth 100000 in
theorem lk130_94 : xAt kT130 94 (.iload_n 1) 95 := ⟨1, rfl, Or.inr rfl, rfl⟩
set_option maxRecDepth 100000 in
theorem lk130_95 : xAt kT130 95 (.iload_n 2) 96 := ⟨1, rfl, Or.inr rfl, rfl⟩
set_option maxRecDepth 100000 in
theorem lk130_96 : xAt kT130 96 (.invokevirtual 272) 99 := ⟨3, rfl, Or.inr rfl, rfl⟩
set_option maxRecDepth 100000 in
theorem lk130_99 : xAt kT130 99 (.aload_n 0) 100 := ⟨1, rfl, Or.inr rfl, rfl⟩
set_option maxRecDepth 100000 in
theorem lk130_100 : xAt kT130 100 (.getfield 12) 103 := ⟨3, rfl, Or.inr rfl, rfl⟩
set_option maxRecDepth 100000 in
theorem lk130_103 : xAt kT130 103 (.aload_n 0) 104 := ⟨1, rfl, Or.inr rfl, rfl⟩
set_option maxRecDepth 100000 in
theorem lk130_104 : xAt kT130 104 (.getfield 72) 107 := ⟨3, rfl, Or.inr rfl, rfl⟩
set_option maxRecDepth 100000 in
theorem lk130_107 : xAt kT130 107 (.getfield 100) 110 := ⟨3, rfl, Or.inr rfl, rfl⟩
set_option maxRecDepth 100000 in
theorem lk130_110 : xAt kT130 110 (.aload_n 0) 111 := ⟨1, rfl, Or.inr rfl, rfl⟩
set_option maxRecDepth 100000 in
theorem lk130_111 : xAt kT130 111 (.getfield 72) 114 := ⟨3, rfl, Or.inr rfl, rfl⟩
set_option maxRecDepth 100000 in
theorem lk130_114 : xAt kT130 114 (.getfield 103) 117 := ⟨3, rfl, Or.inr rfl, rfl⟩
set_option maxRecDepth 100000 in
theorem lk130_117 : xAt kT130 117 (.invokevirtual 536) 120 := ⟨3, rfl, Or.inr rfl, rfl⟩
set_option maxRecDepth 100000 in
theorem lk130_120 : xAt kT130 120 (.aload_n 0) 121 := ⟨1, rfl, Or.inr rfl, rfl⟩
set_option maxRecDepth 100000 in
theorem lk130_121 : xAt kT130 121 (.invokevirtual 323) 124 := ⟨3, rfl, Or.inr rfl, rfl⟩
set_option maxRecDepth 100000 in
theorem lk130_124 : xAt kT130 124 (.aload_n 0) 125 := ⟨1, rfl, Or.inr rfl, rfl⟩
set_option maxRecDepth 100000 in
theorem lk130_125 : xAt kT130 125 (.getfield 21) 128 := ⟨3, rfl, Or.inr rfl, rfl⟩
set_option maxRecDepth 100000 in
theorem lk130_128 : xAt kT130 128 (.getfield 386) 131 := ⟨3, rfl, Or.inr rfl, rfl⟩
set_option maxRecDepth 100000 in
theorem lk130_131 : xAt kT130 131 (.iconst 0) 132 := ⟨1, rfl, Or.inr rfl, rfl⟩
set_option maxRecDepth 100000 in
theorem lk130_132 : xAt kT130 132 (.invokestatic 623) 135 := ⟨3, rfl, Or.inr rfl, rfl⟩
set_option maxRecDepth 100000 in
theorem lk130_135 : xAt kT130 135 (.return_) 136 := ⟨1, rfl, Or.inr rfl, rfl⟩
set_option maxRecDepth 100000 in
theorem lk131_0 : xAt kT131 0 (.aload_n 0) 1 := ⟨1, rfl, Or.inr rfl, rfl⟩
set_option maxRecDepth 100000 in
theorem lk131_1 : xAt kT131 1 (.getfield 85) 4 := ⟨3, rfl, Or.inr rfl, rfl⟩
set_option maxRecDepth 100000 in
theorem lk131_4 : xAt kT131 4 (.iconst 3) 5 := ⟨1, rfl, Or.inr rfl, rfl⟩
set_option maxRecDepth 100000 in
theorem lk131_5 : xAt kT131 5 (.if_icmp .eq 4) 8 := ⟨3, rfl, Or.inr rfl, rfl⟩
set_option maxRecDepth 100000 in
theorem lk131_8 : xAt kT131 8 (.return_) 9 := ⟨1, rfl, Or.inr rfl, rfl⟩
set_option maxRecDepth 100000 in
theorem lk131_9 : xAt kT131 9 (.aload_n 0) 10 := ⟨1, rfl, Or.inr rfl, rfl⟩
set_option maxRecDepth 100000 in
theorem lk131_10 : xAt kT131 10 (.getfield 21) 13 := ⟨3, rfl, Or.inr rfl, rfl⟩
set_option maxRecDepth 100000 in
theorem lk131_13 : xAt kT131 13 (.getfield 459) 16 := ⟨3, rfl, Or.inr rfl, rfl⟩
set_option maxRecDepth 100000 in
theorem lk131_16 : xAt kT131 16 (.aload_n 0) 17 := ⟨1, rfl, Or.inr rfl, rfl⟩
set_option maxRecDepth 100000 in
theorem lk131_17 : xAt kT131 17 (.getfield 72) 20 := ⟨3, rfl, Or.inr rfl, rfl⟩
set_option maxRecDepth 100000 in
theorem lk131_20 : xAt kT131 20 (.getfield 106) 23 := ⟨3, rfl, Or.inr rfl, rfl⟩
set_option maxRecDepth 100000 in
theorem lk131_23 : xAt kT131 23 (.invokestatic 434) 26 := ⟨3, rfl, Or.inr rfl, rfl⟩
set_option maxRecDepth 100000 in
theorem lk131_26 : xAt kT131 26 (.istore_n 1) 27 := ⟨1, rfl, Or.inr rfl, rfl⟩
set_option maxRecDepth 100000 in
theorem lk131_27 : xAt kT131 27 (.iload_n 1) 28 := ⟨1, rfl, Or.inr rfl, rfl⟩
set_option maxRecDepth 100000 in
theorem lk131_28 : xAt kT131 28 (.aload_n 0) 29 := ⟨1, rfl, Or.inr rfl, rfl⟩
set_option maxRecDepth 100000 in
theorem lk131_29 : xAt kT131 29 (.getfield 72) 32 := ⟨3, rfl, Or.inr rfl, rfl⟩
set_option maxRecDepth 100000 in
theorem lk131_32 : xAt kT131 32 (.getfield 91) 35 := ⟨3, rfl, Or.inr rfl, rfl⟩
set_option maxRecDepth 100000 in
theorem lk131_35 : xAt kT131 35 (.if_icmp .le 37) 38 := ⟨3, rfl, Or.inr rfl, rfl⟩
set_option maxRecDepth 100000 in
theorem lk131_38 : xAt kT131 38 (.aload_n 0) 39 := ⟨1, rfl, Or.inr rfl, rfl⟩
set_option maxRecDepth 100000 in
theorem lk131_39 : xAt kT131 39 (.getfield 72) 42 := ⟨3, rfl, Or.inr rfl, rfl⟩
set_option maxRecDepth 100000 in
theorem lk131_42 : xAt kT131 42 (.iload_n 1) 43 := ⟨1, rfl, Or.inr rfl, rfl⟩
set_option maxRecDepth 100000 in
theorem lk131_43 : xAt kT131 43 (.invokevirtual 311) 46 := ⟨3, rfl, Or.inr rfl, rfl⟩
set_option maxRecDepth 100000 in
theorem lk131_46 : xAt kT131 46 (.aload_n 0) 47 := ⟨1, rfl, Or.inr rfl, rfl⟩
set_option maxRecDepth 100000 in
theorem lk131_47 : xAt kT131 47 (.getfield 88) 50 := ⟨3, rfl, Or.inr rfl, rfl⟩
set_option maxRecDepth 100000 in
theorem lk131_50 : xAt kT131 50 (.if_icmp .ne 22) 53 := ⟨3, rfl, Or.inr rfl, rfl⟩
set_option maxRecDepth 100000 in
theorem lk131_53 : xAt kT131 53 (.aload_n 0) 54 := ⟨1, rfl, Or.inr rfl, rfl⟩
set_option maxRecDepth 100000 in
theorem lk131_54 : xAt kT131 54 (.getfield 72) 57 := ⟨3, rfl, Or.inr rfl, rfl⟩
set_option maxRecDepth 100000 in
theorem lk131_57 : xAt kT131 57 (.iload_n 1) 58 := ⟨1, rfl, Or.inr rfl, rfl⟩
set_option maxRecDepth 100000 in
theorem lk131_58 : xAt kT131 58 (.putfield 91) 61 := ⟨3, rfl, Or.inr rfl, rfl⟩
set_option maxRecDepth 100000 in
theorem lk131_61 : xAt kT131 61 (.aload_n 0) 62 := ⟨1, rfl, Or.inr rfl, rfl⟩
set_option maxRecDepth 100000 in
theorem lk131_62 : xAt kT131 62 (.dup) 63 := ⟨1, rfl, Or.inr rfl, rfl⟩
set_option maxRecDepth 100000 in
theorem lk131_63 : xAt kT131 63 (.getfield 146) 66 := ⟨3, rfl, Or.inr rfl, rfl⟩
set_option maxRecDepth 100000 in
theorem lk131_66 : xAt kT131 66 (.bipush 16) 68 := ⟨2, rfl, Or.inr rfl, rfl⟩
set_option maxRecDepth 100000 in
theorem lk131_68 : xAt kT131 68 (.ior) 69 := ⟨1, rfl, Or.inr rfl, rfl⟩
set_option maxRecDepth 100000 in
theorem lk131_69 : xAt kT131 69 (.putfield 146) 72 := ⟨3, rfl, Or.inr rfl, rfl⟩
set_option maxRecDepth 100000 in
theorem lk131_72 : xAt kT131 72 (.aload_n 0) 73 := ⟨1, rfl, Or.inr rfl, rfl⟩
set_option maxRecDepth 100000 in
theorem lk131_73 : xAt kT131 73 (.dup) 74 := ⟨1, rfl, Or.inr rfl, rfl⟩
set_option maxRecDepth 100000 in
theorem lk131_74 : xAt kT131 74 (.getfield 146) 77 := ⟨3, rfl, Or.inr rfl, rfl⟩
set_option maxRecDepth 100000 in
theorem lk131_77 : xAt kT131 77 (.bipush 32) 79 := ⟨2, rfl, Or.inr rfl, rfl⟩
set_option maxRecDepth 100000 in
theorem lk131_79 : xAt kT131 79 (.ior) 80 := ⟨1, rfl, Or.inr rfl, rfl⟩
set_option maxRecDepth 100000 in
theorem lk131_80 : xAt kT131 80 (.putfield 146) 83 := ⟨3, rfl, Or.inr rfl, rfl⟩
set_option maxRecDepth 100000 in
theorem lk131_83 : xAt kT131 83 (.return_) 84 := ⟨1, rfl, Or.inr rfl, rfl⟩
set_option maxRecDepth 100000 in
theorem lk133_0 : xAt kT133 0 (.aload_n 0) 1 := ⟨1, rfl, Or.inr rfl, rfl⟩
set_option maxRecDepth 100000 in
theorem lk133_1 : xAt kT133 1 (.getfield 12) 4 := ⟨3, rfl, Or.inr rfl, rfl⟩
set_option maxRecDepth 100000 in
theorem lk133_4 : xAt kT133 4 (.lload_n 1) 5 := ⟨1, rfl, Or.inr rfl, rfl⟩
set_option maxRecDepth 100000 in
theorem lk133_5 : xAt kT133 5 (.invokevirtual 197) 8 := ⟨3, rfl, Or.inr rfl, rfl⟩
set_option maxRecDepth 100000 in
theorem lk133_8 : xAt kT133 8 (.iconst 0) 9 := ⟨1, rfl, Or.inr rfl, rfl⟩
set_option maxRecDepth 100000 in
theorem lk133_9 : xAt kT133 9 (.istore_n 3) 10 := ⟨1, rfl, Or.inr rfl, rfl⟩
set_option maxRecDepth 100000 in
theorem lk133_10 : xAt kT133 10 (.iload_n 3) 11 := ⟨1, rfl, Or.inr rfl, rfl⟩
set_option maxRecDepth 100000 in
theorem lk133_11 : xAt kT133 11 (.aload_n 0) 12 := ⟨1, rfl, Or.inr rfl, rfl⟩
set_option maxRecDepth 100000 in
theorem lk133_12 : xAt kT133 12 (.getfield 35) 15 := ⟨3, rfl, Or.inr rfl, rfl⟩
set_option maxRecDepth 100000 in
theorem lk133_15 : xAt kT133 15 (.invokevirtual 121) 18 := ⟨3, rfl, Or.inr rfl, rfl⟩
set_option maxRecDepth 100000 in
theorem lk133_18 : xAt kT133 18 (.if_icmp .ge 31) 21 := ⟨3, rfl, Or.inr rfl, rfl⟩
set_option maxRecDepth 100000 in
theorem lk133_21 : xAt kT133 21 (.aload_n 0) 22 := ⟨1, rfl, Or.inr rfl, rfl⟩
set_option maxRecDepth 100000 in
theorem lk133_22 : xAt kT133 22 (.getfield 63) 25 := ⟨3, rfl, Or.inr rfl, rfl⟩
set_option maxRecDepth 100000 in
theorem lk133_25 : xAt kT133 25 (.getfield 201) 28 := ⟨3, rfl, Or.inr rfl, rfl⟩
set_option maxRecDepth 100000 in
theorem lk133_28 : xAt kT133 28 (.aload_n 0) 29 := ⟨1, rfl, Or.inr rfl, rfl⟩
set_option maxRecDepth 100000 in
theorem lk133_29 : xAt kT133 29 (.getfield 35) 32 := ⟨3, rfl, Or.inr rfl, rfl⟩
set_option maxRecDepth 100000 in
theorem lk133_32 : xAt kT133 32 (.iload_n 3) 33 := ⟨1, rfl, Or.inr rfl, rfl⟩
set_option maxRecDepth 100000 in
theorem lk133_33 : xAt kT133 33 (.invokevirtual 206) 36 := ⟨3, rfl, Or.inr rfl, rfl⟩
set_option maxRecDepth 100000 in
theorem lk133_36 : xAt kT133 36 (.checkcast 182) 39 := ⟨3, rfl, Or.inr rfl, rfl⟩
set_option maxRecDepth 100000 in
theorem lk133_39 : xAt kT133 39 (.invokevirtual 210) 42 := ⟨3, rfl, Or.inr rfl, rfl⟩
set_option maxRecDepth 100000 in
theorem lk133_42 : xAt kT133 42 (.pop) 43 := ⟨1, rfl, Or.inr rfl, rfl⟩
set_option maxRecDepth 100000 in
theorem lk133_43 : xAt kT133 43 (.iinc 3 1) 46 := ⟨3, rfl, Or.inr rfl, rfl⟩
set_option maxRecDepth 100000 in
theorem lk133_46 : xAt kT133 46 (.goto (-36)) 49 := ⟨3, rfl, Or.inr rfl, rfl⟩
set_option maxRecDepth 100000 in
theorem lk133_49 : xAt kT133 49 (.aload_n 0) 50 := ⟨1, rfl, Or.inr rfl, rfl⟩
set_option maxRecDepth 100000 in
theorem lk133_50 : xAt kT133 50 (.getfield 35) 53 := ⟨3, rfl, Or.inr rfl, rfl⟩
set_option maxRecDepth 100000 in
theorem lk133_53 : xAt kT133 53 (.invokevirtual 214) 56 := ⟨3, rfl, Or.inr rfl, rfl⟩
set_option maxRecDepth 100000 in
theorem lk133_56 : xAt kT133 56 (.aload_n 0) 57 := ⟨1, rfl, Or.inr rfl, rfl⟩
set_option maxRecDepth 100000 in
theorem lk133_57 : xAt kT133 57 (.invokevirtual 217) 60 := ⟨3, rfl, Or.inr rfl, rfl⟩
set_option maxRecDepth 100000 in
theorem lk133_60 : xAt kT133 60 (.return_) 61 := ⟨1, rfl, Or.inr rfl, rfl⟩
set_option maxRecDepth 100000 in
theorem lk157_0 : xAt kT157 0 (.aload_n 0) 1 := ⟨1, rfl, Or.inr rfl, rfl⟩
set_option maxRecDepth 100000 in
theorem lk157_1 : xAt kT157 1 (.iload_n 1) 2 := ⟨1, rfl, Or.inr rfl, rfl⟩
set_option maxRecDepth 100000 in
theorem lk157_2 : xAt kT157 2 (.bipush 6) 4 := ⟨2, rfl, Or.inr rfl, rfl⟩
set_option maxRecDepth 100000 in
theorem lk157_4 : xAt kT157 4 (.invokevirtual 351) 7 := ⟨3, rfl, Or.inr rfl, rfl⟩
set_option maxRecDepth 100000 in
theorem lk157_7 : xAt kT157 7 (.astore 5) 9 := ⟨2, rfl, Or.inr rfl, rfl⟩
set_option maxRecDepth 100000 in
theorem lk157_9 : xAt kT157 9 (.aload 5) 11 := ⟨2, rfl, Or.inr rfl, rfl⟩
set_option maxRecDepth 100000 in
theorem lk157_11 : xAt kT157 11 (.iload_n 2) 12 := ⟨1, rfl, Or.inr rfl, rfl⟩
set_option maxRecDepth 100000 in
theorem lk157_12 : xAt kT157 12 (.putfield 343) 15 := ⟨3, rfl, Or.inr rfl, rfl⟩
set_option maxRecDepth 100000 in
theorem lk157_15 : xAt kT157 15 (.aload 5) 17 := ⟨2, rfl, Or.inr rfl, rfl⟩
set_option maxRecDepth 100000 in
theorem lk157_17 : xAt kT157 17 (.iload_n 3) 18 := ⟨1, rfl, Or.inr rfl, rfl⟩
set_option maxRecDepth 100000 in
theorem lk157_18 : xAt kT157 18 (.putfield 189) 21 := ⟨3, rfl, Or.inr rfl, rfl⟩
set_option maxRecDepth 100000 in
theorem lk157_21 : xAt kT157 21 (.aload 5) 23 := ⟨2, rfl, Or.inr rfl, rfl⟩
set_option maxRecDepth 100000 in
theorem lk157_23 : xAt kT157 23 (.iload 4) 25 := ⟨2, rfl, Or.inr rfl, rfl⟩
set_option maxRecDepth 100000 in
theorem lk157_25 : xAt kT157 25 (.putfield 192) 28 := ⟨3, rfl, Or.inr rfl, rfl⟩
set_option maxRecDepth 100000 in
theorem lk157_28 : xAt kT157 28 (.aload_n 0) 29 := ⟨1, rfl, Or.inr rfl, rfl⟩
set_option maxRecDepth 100000 in
theorem lk157_29 : xAt kT157 29 (.aload 5) 31 := ⟨2, rfl, Or.inr rfl, rfl⟩
set_option maxRecDepth 100000 in
theorem lk157_31 : xAt kT157 31 (.invokevirtual 362) 34 := ⟨3, rfl, Or.inr rfl, rfl⟩
set_option maxRecDepth 100000 in
theorem lk157_34 : xAt kT157 34 (.return_) 35 := ⟨1, rfl, Or.inr rfl, rfl⟩
set_option maxRecDepth 100000 in
theorem lk135_0 : xAt kT135 0 (.aload_n 0) 1 := ⟨1, rfl, Or.inr rfl, rfl⟩
set_option maxRecDepth 100000 in
theorem lk135_1 : xAt kT135 1 (.iconst 0) 2 := ⟨1, rfl, Or.inr rfl, rfl⟩
set_option maxRecDepth 100000 in
theorem lk135_2 : xAt kT135 2 (.putfield 85) 5 := ⟨3, rfl, Or.inr rfl, rfl⟩
set_option maxRecDepth 100000 in
theorem lk135_5 : xAt kT135 5 (.aload_n 0) 6 := ⟨1, rfl, Or.inr rfl, rfl⟩
set_option maxRecDepth 100000 in
theorem lk135_6 : xAt kT135 6 (.iload_n 1) 7 := ⟨1, rfl, Or.inr rfl, rfl⟩
set_option maxRecDepth 100000 in
theorem lk135_7 : xAt kT135 7 (.putfield 47) 10 := ⟨3, rfl, Or.inr rfl, rfl⟩
set_option maxRecDepth 100000 in
theorem lk135_10 : xAt kT135 10 (.return_) 11 := ⟨1, rfl, Or.inr rfl, rfl⟩
set_option maxRecDepth 100000 in
theorem lk139_0 : xAt kT139 0 (.aload_n 0) 1 := ⟨1, rfl, Or.inr rfl, rfl⟩
set_option maxRecDepth 100000 in
theorem lk139_1 : xAt kT139 1 (.getfield 85) 4 := ⟨3, rfl, Or.inr rfl, rfl⟩
set_option maxRecDepth 100000 in
theorem lk139_4 : xAt kT139 4 (.iconst 3) 5 := ⟨1, rfl, Or.inr rfl, rfl⟩
set_option maxRecDepth 100000 in
theorem lk139_5 : xAt kT139 5 (.if_icmp .ne 5) 8 := ⟨3, rfl, Or.inr rfl, rfl⟩
set_option maxRecDepth 100000 in
theorem lk139_8 : xAt kT139 8 (.iconst 0) 9 := ⟨1, rfl, Or.inr rfl, rfl⟩
set_option maxRecDepth 100000 in
theorem lk139_9 : xAt kT139 9 (.ireturn) 10 := ⟨1, rfl, Or.inr rfl, rfl⟩
set_option maxRecDepth 100000 in
theorem lk139_10 : xAt kT139 10 (.aload_n 0) 11 := ⟨1, rfl, Or.inr rfl, rfl⟩
set_option maxRecDepth 100000 in
theorem lk139_11 : xAt kT139 11 (.aload_n 1) 12 := ⟨1, rfl, Or.inr rfl, rfl⟩
set_option maxRecDepth 100000 in
theorem lk139_12 : xAt kT139 12 (.getfield 181) 15 := ⟨3, rfl, Or.inr rfl, rfl⟩
set_option maxRecDepth 100000 in
theorem lk139_15 : xAt kT139 15 (.invokevirtual 428) 18 := ⟨3, rfl, Or.inr rfl, rfl⟩
set_option maxRecDepth 100000 in
theorem lk139_18 : xAt kT139 18 (.aload_n 0) 19 := ⟨1, rfl, Or.inr rfl, rfl⟩
set_option maxRecDepth 100000 in
theorem lk139_19 : xAt kT139 19 (.aload_n 0) 20 := ⟨1, rfl, Or.inr rfl, rfl⟩
set_option maxRecDepth 100000 in
theorem lk139_20 : xAt kT139 20 (.getfield 63) 23 := ⟨3, rfl, Or.inr rfl, rfl⟩
set_option maxRecDepth 100000 in
theorem lk139_23 : xAt kT139 23 (.getfield 241) 26 := ⟨3, rfl, Or.inr rfl, rfl⟩
set_option maxRecDepth 100000 in
theorem lk139_26 : xAt kT139 26 (.putfield 50) 29 := ⟨3, rfl, Or.inr rfl, rfl⟩
set_option maxRecDepth 100000 in
theorem lk139_29 : xAt kT139 29 (.aload_n 0) 30 := ⟨1, rfl, Or.inr rfl, rfl⟩
set_option maxRecDepth 100000 in
theorem lk139_30 : xAt kT139 30 (.getfield 63) 33 := ⟨3, rfl, Or.inr rfl, rfl⟩
set_option maxRecDepth 100000 in
theorem lk139_33 : xAt kT139 33 (.aload_n 0) 34 := ⟨1, rfl, Or.inr rfl, rfl⟩
set_option maxRecDepth 100000 in
theorem lk139_34 : xAt kT139 34 (.getfield 60) 37 := ⟨3, rfl, Or.inr rfl, rfl⟩
set_option maxRecDepth 100000 in
theorem lk139_37 : xAt kT139 37 (.invokevirtual 251) 40 := ⟨3, rfl, Or.inr rfl, rfl⟩
set_option maxRecDepth 100000 in
theorem lk139_40 : xAt kT139 40 (.iconst 1) 41 := ⟨1, rfl, Or.inr rfl, rfl⟩
set_option maxRecDepth 100000 in
theorem lk139_41 : xAt kT139 41 (.ireturn) 42 := ⟨1, rfl, Or.inr rfl, rfl⟩
set_option maxRecDepth 100000 in
theorem lk134_0 : xAt kT134 0 (.aload_n 1) 1 := ⟨1, rfl, Or.inr rfl, rfl⟩
set_option maxRecDepth 100000 in
theorem lk134_1 : xAt kT134 1 (.getfield 189) 4 := ⟨3, rfl, Or.inr rfl, rfl⟩
set_option maxRecDepth 100000 in
theorem lk134_4 : xAt kT134 4 (.istore_n 2) 5 := ⟨1, rfl, Or.inr rfl, rfl⟩
set_option maxRecDepth 100000 in
theorem lk134_5 : xAt kT134 5 (.aload_n 1) 6 := ⟨1, rfl, Or.inr rfl, rfl⟩
set_option maxRecDepth 100000 in
theorem lk134_6 : xAt kT134 6 (.getfield 342) 9 := ⟨3, rfl, Or.inr rfl, rfl⟩
set_option maxRecDepth 100000 in
theorem lk134_9 : xAt kT134 9 (.aload_n 0) 10 := ⟨1, rfl, Or.inr rfl, rfl⟩
set_option maxRecDepth 100000 in
theorem lk134_10 : xAt kT134 10 (.getfield 88) 13 := ⟨3, rfl, Or.inr rfl, rfl⟩
set_option maxRecDepth 100000 in
theorem lk134_13 : xAt kT134 13 (.if_icmp .ge 17) 16 := ⟨3, rfl, Or.inr rfl, rfl⟩
set_option maxRecDepth 100000 in
theorem lk134_16 : xAt kT134 16 (.aload_n 0) 17 := ⟨1, rfl, Or.inr rfl, rfl⟩
set_option maxRecDepth 100000 in
theorem lk134_17 : xAt kT134 17 (.aload_n 1) 18 := ⟨1, rfl, Or.inr rfl, rfl⟩
set_option maxRecDepth 100000 in
theorem lk134_18 : xAt kT134 18 (.getfield 181) 21 := ⟨3, rfl, Or.inr rfl, rfl⟩
set_option maxRecDepth 100000 in
theorem lk134_21 : xAt kT134 21 (.iconst 0) 22 := ⟨1, rfl, Or.inr rfl, rfl⟩
set_option maxRecDepth 100000 in
theorem lk134_22 : xAt kT134 22 (.iconst 0) 23 := ⟨1, rfl, Or.inr rfl, rfl⟩
set_option maxRecDepth 100000 in
theorem lk134_23 : xAt kT134 23 (.iconst 0) 24 := ⟨1, rfl, Or.inr rfl, rfl⟩
set_option maxRecDepth 100000 in
theorem lk134_24 : xAt kT134 24 (.invokevirtual 193) 27 := ⟨3, rfl, Or.inr rfl, rfl⟩
set_option maxRecDepth 100000 in
theorem lk134_27 : xAt kT134 27 (.goto 101) 30 := ⟨3, rfl, Or.inr rfl, rfl⟩
set_option maxRecDepth 100000 in
theorem lk134_30 : xAt kT134 30 (.aload_n 0) 31 := ⟨1, rfl, Or.inr rfl, rfl⟩
set_option maxRecDepth 100000 in
theorem lk134_31 : xAt kT134 31 (.aload_n 1) 32 := ⟨1, rfl, Or.inr rfl, rfl⟩
set_option maxRecDepth 100000 in
theorem lk134_32 : xAt kT134 32 (.invokevirtual 506) 35 := ⟨3, rfl, Or.inr rfl, rfl⟩
set_option maxRecDepth 100000 in
theorem lk134_35 : xAt kT134 35 (.ifCond .ne 5) 38 := ⟨3, rfl, Or.inr rfl, rfl⟩
set_option maxRecDepth 100000 in
theorem lk134_38 : xAt kT134 38 (.iconst 0) 39 := ⟨1, rfl, Or.inr rfl, rfl⟩
set_option maxRecDepth 100000 in
theorem lk134_39 : xAt kT134 39 (.ireturn) 40 := ⟨1, rfl, Or.inr rfl, rfl⟩
set_option maxRecDepth 100000 in
theorem lk134_40 : xAt kT134 40 (.iload_n 2) 41 := ⟨1, rfl, Or.inr rfl, rfl⟩
set_option maxRecDepth 100000 in
theorem lk134_41 : xAt kT134 41 (.aload_n 0) 42 := ⟨1, rfl, Or.inr rfl, rfl⟩
set_option maxRecDepth 100000 in
theorem lk134_42 : xAt kT134 42 (.getfield 72) 45 := ⟨3, rfl, Or.inr rfl, rfl⟩
set_option maxRecDepth 100000 in
theorem lk134_45 : xAt kT134 45 (.getfield 103) 48 := ⟨3, rfl, Or.inr rfl, rfl⟩
set_option maxRecDepth 100000 in
theorem lk134_48 : xAt kT134 48 (.if_icmp .le 28) 51 := ⟨3, rfl, Or.inr rfl, rfl⟩
set_option maxRecDepth 100000 in
theorem lk134_51 : xAt kT134 51 (.aload_n 0) 52 := ⟨1, rfl, Or.inr rfl, rfl⟩
set_option maxRecDepth 100000 in
theorem lk134_52 : xAt kT134 52 (.aload_n 1) 53 := ⟨1, rfl, Or.inr rfl, rfl⟩
set_option maxRecDepth 100000 in
theorem lk134_53 : xAt kT134 53 (.getfield 181) 56 := ⟨3, rfl, Or.inr rfl, rfl⟩
set_option maxRecDepth 100000 in
theorem lk134_56 : xAt kT134 56 (.iconst 0) 57 := ⟨1, rfl, Or.inr rfl, rfl⟩
set_option maxRecDepth 100000 in
theorem lk134_57 : xAt kT134 57 (.aload_n 0) 58 := ⟨1, rfl, Or.inr rfl, rfl⟩
set_option maxRecDepth 100000 in
theorem lk134_58 : xAt kT134 58 (.getfield 72) 61 := ⟨3, rfl, Or.inr rfl, rfl⟩
set_option maxRecDepth 100000 in
theorem lk134_61 : xAt kT134 61 (.getfield 103) 64 := ⟨3, rfl, Or.inr rfl, rfl⟩
set_option maxRecDepth 100000 in
theorem lk134_64 : xAt kT134 64 (.iconst 1) 65 := ⟨1, rfl, Or.inr rfl, rfl⟩
set_option maxRecDepth 100000 in
theorem lk134_65 : xAt kT134 65 (.iadd) 66 := ⟨1, rfl, Or.inr rfl, rfl⟩
set_option maxRecDepth 100000 in
theorem lk134_66 : xAt kT134 66 (.aload_n 1) 67 := ⟨1, rfl, Or.inr rfl, rfl⟩
set_option maxRecDepth 100000 in
theorem lk134_67 : xAt kT134 67 (.getfield 192) 70 := ⟨3, rfl, Or.inr rfl, rfl⟩
set_option maxRecDepth 100000 in
theorem lk134_70 : xAt kT134 70 (.invokevirtual 193) 73 := ⟨3, rfl, Or.inr rfl, rfl⟩
set_option maxRecDepth 100000 in
theorem lk134_73 : xAt kT134 73 (.goto 55) 76 := ⟨3, rfl, Or.inr rfl, rfl⟩
set_option maxRecDepth 100000 in
theorem lk134_76 : xAt kT134 76 (.iload_n 2) 77 := ⟨1, rfl, Or.inr rfl, rfl⟩
set_option maxRecDepth 100000 in
theorem lk134_77 : xAt kT134 77 (.aload_n 0) 78 := ⟨1, rfl, Or.inr rfl, rfl⟩
set_option maxRecDepth 100000 in
theorem lk134_78 : xAt kT134 78 (.getfield 72) 81 := ⟨3, rfl, Or.inr rfl, rfl⟩
set_option maxRecDepth 100000 in
theorem lk134_81 : xAt kT134 81 (.getfield 100) 84 := ⟨3, rfl, Or.inr rfl, rfl⟩
set_option maxRecDepth 100000 in
theorem lk134_84 : xAt kT134 84 (.if_icmp .lt 42) 87 := ⟨3, rfl, Or.inr rfl, rfl⟩
set_option maxRecDepth 100000 in
theorem lk134_87 : xAt kT134 87 (.aload_n 0) 88 := ⟨1, rfl, Or.inr rfl, rfl⟩
set_option maxRecDepth 100000 in
theorem lk134_88 : xAt kT134 88 (.getfield 72) 91 := ⟨3, rfl, Or.inr rfl, rfl⟩
set_option maxRecDepth 100000 in
theorem lk134_91 : xAt kT134 91 (.iload_n 2) 92 := ⟨1, rfl, Or.inr rfl, rfl⟩
set_option maxRecDepth 100000 in
theorem lk134_92 : xAt kT134 92 (.invokevirtual 311) 95 := ⟨3, rfl, Or.inr rfl, rfl⟩
set_option maxRecDepth 100000 in
theorem lk134_95 : xAt kT134 95 (.aload_n 1) 96 := ⟨1, rfl, Or.inr rfl, rfl⟩
set_option maxRecDepth 100000 in
theorem lk134_96 : xAt kT134 96 (.getfield 370) 99 := ⟨3, rfl, Or.inr rfl, rfl⟩
set_option maxRecDepth 100000 in
theorem lk134_99 : xAt kT134 99 (.if_icmp .eq 27) 102 := ⟨3, rfl, Or.inr rfl, rfl⟩
set_option maxRecDepth 100000 in
theorem lk134_102 : xAt kT134 102 (.aload_n 0) 103 := ⟨1, rfl, Or.inr rfl, rfl⟩
set_option maxRecDepth 100000 in
theorem lk134_103 : xAt kT134 103 (.aload_n 1) 104 := ⟨1, rfl, Or.inr rfl, rfl⟩
set_option maxRecDepth 100000 in
theorem lk134_104 : xAt kT134 104 (.getfield 181) 107 := ⟨3, rfl, Or.inr rfl, rfl⟩
set_option maxRecDepth 100000 in
theorem lk134_107 : xAt kT134 107 (.iconst 0) 108 := ⟨1, rfl, Or.inr rfl, rfl⟩
set_option maxRecDepth 100000 in
theorem lk134_108 : xAt kT134 108 (.aload_n 0) 109 := ⟨1, rfl, Or.inr rfl, rfl⟩
set_option maxRecDepth 100000 in
theorem lk134_109 : xAt kT134 109 (.getfield 72) 112 := ⟨3, rfl, Or.inr rfl, rfl⟩
set_option maxRecDepth 100000 in
theorem lk134_112 : xAt kT134 112 (.iload_n 2) 113 := ⟨1, rfl, Or.inr rfl, rfl⟩
set_option maxRecDepth 100000 in
theorem lk134_113 : xAt kT134 113 (.invokevirtual 509) 116 := ⟨3, rfl, Or.inr rfl, rfl⟩
set_option maxRecDepth 100000 in
theorem lk134_116 : xAt kT134 116 (.aload_n 1) 117 := ⟨1, rfl, Or.inr rfl, rfl⟩
set_option maxRecDepth 100000 in
theorem lk134_117 : xAt kT134 117 (.getfield 192) 120 := ⟨3, rfl, Or.inr rfl, rfl⟩
set_option maxRecDepth 100000 in
theorem lk134_120 : xAt kT134 120 (.invokevirtual 193) 123 := ⟨3, rfl, Or.inr rfl, rfl⟩
set_option maxRecDepth 100000 in
theorem lk134_123 : xAt kT134 123 (.goto 5) 126 := ⟨3, rfl, Or.inr rfl, rfl⟩
set_option maxRecDepth 100000 in
theorem lk134_126 : xAt kT134 126 (.iconst 1) 127 := ⟨1, rfl, Or.inr rfl, rfl⟩
set_option maxRecDepth 100000 in
theorem lk134_127 : xAt kT134 127 (.ireturn) 128 := ⟨1, rfl, Or.inr rfl, rfl⟩
set_option maxRecDepth 100000 in
theorem lk134_128 : xAt kT134 128 (.iconst 0) 129 := ⟨1, rfl, Or.inr rfl, rfl⟩
set_option maxRecDepth 100000 in
theorem lk134_129 : xAt kT134 129 (.ireturn) 130 := ⟨1, rfl, Or.inr rfl, rfl⟩
set_option maxRecDepth 100000 in
theorem lk151_0 : xAt kT151 0 (.iconst 0) 1 := ⟨1, rfl, Or.inr rfl, rfl⟩
set_option maxRecDepth 100000 in
theorem lk151_1 : xAt kT151 1 (.istore_n 1) 2 := ⟨1, rfl, Or.inr rfl, rfl⟩
set_option maxRecDepth 100000 in
theorem lk151_2 : xAt kT151 2 (.iload_n 1) 3 := ⟨1, rfl, Or.inr rfl, rfl⟩
set_option maxRecDepth 100000 in
theorem lk151_3 : xAt kT151 3 (.aload_n 0) 4 := ⟨1, rfl, Or.inr rfl, rfl⟩
set_option maxRecDepth 100000 in
theorem lk151_4 : xAt kT151 4 (.getfield 35) 7 := ⟨3, rfl, Or.inr rfl, rfl⟩
set_option maxRecDepth 100000 in
theorem lk151_7 : xAt kT151 7 (.invokevirtual 121) 10 := ⟨3, rfl, Or.inr rfl, rfl⟩
set_option maxRecDepth 100000 in
theorem lk151_10 : xAt kT151 10 (.if_icmp .ge 27) 13 := ⟨3, rfl, Or.inr rfl, rfl⟩
set_option maxRecDepth 100000 in
theorem lk151_13 : xAt kT151 13 (.aload_n 0) 14 := ⟨1, rfl, Or.inr rfl, rfl⟩
set_option maxRecDepth 100000 in
theorem lk151_14 : xAt kT151 14 (.getfield 63) 17 := ⟨3, rfl, Or.inr rfl, rfl⟩
set_option maxRecDepth 100000 in
theorem lk151_17 : xAt kT151 17 (.aload_n 0) 18 := ⟨1, rfl, Or.inr rfl, rfl⟩
set_option maxRecDepth 100000 in
theorem lk151_18 : xAt kT151 18 (.getfield 35) 21 := ⟨3, rfl, Or.inr rfl, rfl⟩
set_option maxRecDepth 100000 in
theorem lk151_21 : xAt kT151 21 (.iload_n 1) 22 := ⟨1, rfl, Or.inr rfl, rfl⟩
set_option maxRecDepth 100000 in
theorem lk151_22 : xAt kT151 22 (.invokevirtual 206) 25 := ⟨3, rfl, Or.inr rfl, rfl⟩
set_option maxRecDepth 100000 in
theorem lk151_25 : xAt kT151 25 (.checkcast 182) 28 := ⟨3, rfl, Or.inr rfl, rfl⟩
set_option maxRecDepth 100000 in
theorem lk151_28 : xAt kT151 28 (.invokevirtual 347) 31 := ⟨3, rfl, Or.inr rfl, rfl⟩
set_option maxRecDepth 100000 in
theorem lk151_31 : xAt kT151 31 (.iinc 1 1) 34 := ⟨3, rfl, Or.inr rfl, rfl⟩
set_option maxRecDepth 100000 in
theorem lk151_34 : xAt kT151 34 (.goto (-32)) 37 := ⟨3, rfl, Or.inr rfl, rfl⟩
set_option maxRecDepth 100000 in
theorem lk151_37 : xAt kT151 37 (.aload_n 0) 38 := ⟨1, rfl, Or.inr rfl, rfl⟩
set_option maxRecDepth 100000 in
theorem lk151_38 : xAt kT151 38 (.getfield 35) 41 := ⟨3, rfl, Or.inr rfl, rfl⟩
set_option maxRecDepth 100000 in
theorem lk151_41 : xAt kT151 41 (.invokevirtual 214) 44 := ⟨3, rfl, Or.inr rfl, rfl⟩
set_option maxRecDepth 100000 in
theorem lk151_44 : xAt kT151 44 (.return_) 45 := ⟨1, rfl, Or.inr rfl, rfl⟩
set_option maxRecDepth 100000 in
theorem lk136_0 : xAt kT136 0 (.aload_n 0) 1 := ⟨1, rfl, Or.inr rfl, rfl⟩
set_option maxRecDepth 100000 in
theorem lk136_1 : xAt kT136 1 (.getfield 12) 4 := ⟨3, rfl, Or.inr rfl, rfl⟩
set_option maxRecDepth 100000 in
theorem lk136_4 : xAt kT136 4 (.invokevirtual 220) 7 := ⟨3, rfl, Or.inr rfl, rfl⟩
set_option maxRecDepth 100000 in
theorem lk136_7 : xAt kT136 7 (.aload_n 0) 8 := ⟨1, rfl, Or.inr rfl, rfl⟩
set_option maxRecDepth 100000 in
theorem lk136_8 : xAt kT136 8 (.invokevirtual 223) 11 := ⟨3, rfl, Or.inr rfl, rfl⟩
set_option maxRecDepth 100000 in
theorem lk136_11 : xAt kT136 11 (.aload_n 0) 12 := ⟨1, rfl, Or.inr rfl, rfl⟩
set_option maxRecDepth 100000 in
theorem lk136_12 : xAt kT136 12 (.invokevirtual 217) 15 := ⟨3, rfl, Or.inr rfl, rfl⟩
set_option maxRecDepth 100000 in
theorem lk136_15 : xAt kT136 15 (.return_) 16 := ⟨1, rfl, Or.inr rfl, rfl⟩
set_option maxRecDepth 100000 in
theorem lk153_0 : xAt kT153 0 (.aload_n 1) 1 := ⟨1, rfl, Or.inr rfl, rfl⟩
set_option maxRecDepth 100000 in
theorem lk153_1 : xAt kT153 1 (.aload_n 0) 2 := ⟨1, rfl, Or.inr rfl, rfl⟩
set_option maxRecDepth 100000 in
theorem lk153_2 : xAt kT153 2 (.getfield 72) 5 := ⟨3, rfl, Or.inr rfl, rfl⟩
set_option maxRecDepth 100000 in
theorem lk153_5 : xAt kT153 5 (.getfield 100) 8 := ⟨3, rfl, Or.inr rfl, rfl⟩
set_option maxRecDepth 100000 in
theorem lk153_8 : xAt kT153 8 (.putfield 189) 11 := ⟨3, rfl, Or.inr rfl, rfl⟩
set_option maxRecDepth 100000 in
theorem lk153_11 : xAt kT153 11 (.aload_n 1) 12 := ⟨1, rfl, Or.inr rfl, rfl⟩
set_option maxRecDepth 100000 in
theorem lk153_12 : xAt kT153 12 (.aload_n 0) 13 := ⟨1, rfl, Or.inr rfl, rfl⟩
set_option maxRecDepth 100000 in
theorem lk153_13 : xAt kT153 13 (.getfield 72) 16 := ⟨3, rfl, Or.inr rfl, rfl⟩
set_option maxRecDepth 100000 in
theorem lk153_16 : xAt kT153 16 (.getfield 416) 19 := ⟨3, rfl, Or.inr rfl, rfl⟩
set_option maxRecDepth 100000 in
theorem lk153_19 : xAt kT153 19 (.putfield 370) 22 := ⟨3, rfl, Or.inr rfl, rfl⟩
set_option maxRecDepth 100000 in
theorem lk153_22 : xAt kT153 22 (.aload_n 1) 23 := ⟨1, rfl, Or.inr rfl, rfl⟩
set_option maxRecDepth 100000 in
theorem lk153_23 : xAt kT153 23 (.aload_n 0) 24 := ⟨1, rfl, Or.inr rfl, rfl⟩
set_option maxRecDepth 100000 in
theorem lk153_24 : xAt kT153 24 (.getfield 72) 27 := ⟨3, rfl, Or.inr rfl, rfl⟩
set_option maxRecDepth 100000 in
theorem lk153_27 : xAt kT153 27 (.getfield 419) 30 := ⟨3, rfl, Or.inr rfl, rfl⟩
set_option maxRecDepth 100000 in
theorem lk153_30 : xAt kT153 30 (.putfield 422) 33 := ⟨3, rfl, Or.inr rfl, rfl⟩
set_option maxRecDepth 100000 in
theorem lk153_33 : xAt kT153 33 (.aload_n 1) 34 := ⟨1, rfl, Or.inr rfl, rfl⟩
set_option maxRecDepth 100000 in
theorem lk153_34 : xAt kT153 34 (.aload_n 0) 35 := ⟨1, rfl, Or.inr rfl, rfl⟩
set_option maxRecDepth 100000 in
theorem lk153_35 : xAt kT153 35 (.getfield 12) 38 := ⟨3, rfl, Or.inr rfl, rfl⟩
set_option maxRecDepth 100000 in
theorem lk153_38 : xAt kT153 38 (.invokevirtual 137) 41 := ⟨3, rfl, Or.inr rfl, rfl⟩
set_option maxRecDepth 100000 in
theorem lk153_41 : xAt kT153 41 (.putfield 365) 44 := ⟨3, rfl, Or.inr rfl, rfl⟩
set_option maxRecDepth 100000 in
theorem lk153_44 : xAt kT153 44 (.aload_n 1) 45 := ⟨1, rfl, Or.inr rfl, rfl⟩
set_option maxRecDepth 100000 in
theorem lk153_45 : xAt kT153 45 (.iload_n 2) 46 := ⟨1, rfl, Or.inr rfl, rfl⟩
set_option maxRecDepth 100000 in
theorem lk153_46 : xAt kT153 46 (.putfield 423) 49 := ⟨3, rfl, Or.inr rfl, rfl⟩
set_option maxRecDepth 100000 in
theorem lk153_49 : xAt kT153 49 (.aload_n 1) 50 := ⟨1, rfl, Or.inr rfl, rfl⟩
set_option maxRecDepth 100000 in
theorem lk153_50 : xAt kT153 50 (.aload_n 0) 51 := ⟨1, rfl, Or.inr rfl, rfl⟩
set_option maxRecDepth 100000 in
theorem lk153_51 : xAt kT153 51 (.getfield 21) 54 := ⟨3, rfl, Or.inr rfl, rfl⟩
set_option maxRecDepth 100000 in
theorem lk153_54 : xAt kT153 54 (.getfield 118) 57 := ⟨3, rfl, Or.inr rfl, rfl⟩
set_option maxRecDepth 100000 in
theorem lk153_57 : xAt kT153 57 (.putfield 192) 60 := ⟨3, rfl, Or.inr rfl, rfl⟩
set_option maxRecDepth 100000 in
theorem lk153_60 : xAt kT153 60 (.aload_n 0) 61 := ⟨1, rfl, Or.inr rfl, rfl⟩
set_option maxRecDepth 100000 in
theorem lk153_61 : xAt kT153 61 (.getfield 12) 64 := ⟨3, rfl, Or.inr rfl, rfl⟩
set_option maxRecDepth 100000 in
theorem lk153_64 : xAt kT153 64 (.getfield 256) 67 := ⟨3, rfl, Or.inr rfl, rfl⟩
set_option maxRecDepth 100000 in
theorem lk153_67 : xAt kT153 67 (.iconst (-1)) 68 := ⟨1, rfl, Or.inr rfl, rfl⟩
set_option maxRecDepth 100000 in
theorem lk153_68 : xAt kT153 68 (.if_icmp .eq 32) 71 := ⟨3, rfl, Or.inr rfl, rfl⟩
set_option maxRecDepth 100000 in
theorem lk153_71 : xAt kT153 71 (.aload_n 1) 72 := ⟨1, rfl, Or.inr rfl, rfl⟩
set_option maxRecDepth 100000 in
theorem lk153_72 : xAt kT153 72 (.aload_n 0) 73 := ⟨1, rfl, Or.inr rfl, rfl⟩
set_option maxRecDepth 100000 in
theorem lk153_73 : xAt kT153 73 (.getfield 12) 76 := ⟨3, rfl, Or.inr rfl, rfl⟩
set_option maxRecDepth 100000 in
theorem lk153_76 : xAt kT153 76 (.getfield 259) 79 := ⟨3, rfl, Or.inr rfl, rfl⟩
set_option maxRecDepth 100000 in
theorem lk153_79 : xAt kT153 79 (.aload_n 0) 80 := ⟨1, rfl, Or.inr rfl, rfl⟩
set_option maxRecDepth 100000 in
theorem lk153_80 : xAt kT153 80 (.getfield 12) 83 := ⟨3, rfl, Or.inr rfl, rfl⟩
set_option maxRecDepth 100000 in
theorem lk153_83 : xAt kT153 83 (.getfield 256) 86 := ⟨3, rfl, Or.inr rfl, rfl⟩
set_option maxRecDepth 100000 in
theorem lk153_86 : xAt kT153 86 (.aaload) 87 := ⟨1, rfl, Or.inr rfl, rfl⟩
set_option maxRecDepth 100000 in
theorem lk153_87 : xAt kT153 87 (.getfield 276) 90 := ⟨3, rfl, Or.inr rfl, rfl⟩
set_option maxRecDepth 100000 in
theorem lk153_90 : xAt kT153 90 (.iload_n 2) 91 := ⟨1, rfl, Or.inr rfl, rfl⟩
set_option maxRecDepth 100000 in
theorem lk153_91 : xAt kT153 91 (.aload_n 1) 92 := ⟨1, rfl, Or.inr rfl, rfl⟩
set_option maxRecDepth 100000 in
theorem lk153_92 : xAt kT153 92 (.getfield 365) 95 := ⟨3, rfl, Or.inr rfl, rfl⟩
set_option maxRecDepth 100000 in
theorem lk153_95 : xAt kT153 95 (.iload_n 2) 96 := ⟨1, rfl, Or.inr rfl, rfl⟩
set_option maxRecDepth 100000 in
theorem lk153_96 : xAt kT153 96 (.isub) 97 := ⟨1, rfl, Or.inr rfl, rfl⟩
set_option maxRecDepth 100000 in
theorem lk153_97 : xAt kT153 97 (.invokevirtual 358) 100 := ⟨3, rfl, Or.inr rfl, rfl⟩
set_option maxRecDepth 100000 in
theorem lk153_100 : xAt kT153 100 (.return_) 101 := ⟨1, rfl, Or.inr rfl, rfl⟩
set_option maxRecDepth 100000 in
theorem lk152_0 : xAt kT152 0 (.aload_n 1) 1 := ⟨1, rfl, Or.inr rfl, rfl⟩
set_option maxRecDepth 100000 in
theorem lk152_1 : xAt kT152 1 (.iload_n 2) 2 := ⟨1, rfl, Or.inr rfl, rfl⟩
set_option maxRecDepth 100000 in
theorem lk152_2 : xAt kT152 2 (.iconst 1) 3 := ⟨1, rfl, Or.inr rfl, rfl⟩
set_option maxRecDepth 100000 in
theorem lk152_3 : xAt kT152 3 (.isub) 4 := ⟨1, rfl, Or.inr rfl, rfl⟩
set_option maxRecDepth 100000 in
theorem lk152_4 : xAt kT152 4 (.putfield 189) 7 := ⟨3, rfl, Or.inr rfl, rfl⟩
set_option maxRecDepth 100000 in
theorem lk152_7 : xAt kT152 7 (.aload_n 1) 8 := ⟨1, rfl, Or.inr rfl, rfl⟩
set_option maxRecDepth 100000 in
theorem lk152_8 : xAt kT152 8 (.aload_n 0) 9 := ⟨1, rfl, Or.inr rfl, rfl⟩
set_option maxRecDepth 100000 in
theorem lk152_9 : xAt kT152 9 (.getfield 72) 12 := ⟨3, rfl, Or.inr rfl, rfl⟩
set_option maxRecDepth 100000 in
theorem lk152_12 : xAt kT152 12 (.iload_n 2) 13 := ⟨1, rfl, Or.inr rfl, rfl⟩
set_option maxRecDepth 100000 in
theorem lk152_13 : xAt kT152 13 (.iconst 1) 14 := ⟨1, rfl, Or.inr rfl, rfl⟩
set_option maxRecDepth 100000 in
theorem lk152_14 : xAt kT152 14 (.isub) 15 := ⟨1, rfl, Or.inr rfl, rfl⟩
set_option maxRecDepth 100000 in
theorem lk152_15 : xAt kT152 15 (.invokevirtual 311) 18 := ⟨3, rfl, Or.inr rfl, rfl⟩
set_option maxRecDepth 100000 in
theorem lk152_18 : xAt kT152 18 (.putfield 370) 21 := ⟨3, rfl, Or.inr rfl, rfl⟩
set_option maxRecDepth 100000 in
theorem lk152_21 : xAt kT152 21 (.aload_n 1) 22 := ⟨1, rfl, Or.inr rfl, rfl⟩
set_option maxRecDepth 100000 in
theorem lk152_22 : xAt kT152 22 (.aload_n 0) 23 := ⟨1, rfl, Or.inr rfl, rfl⟩
set_option maxRecDepth 100000 in
theorem lk152_23 : xAt kT152 23 (.getfield 72) 26 := ⟨3, rfl, Or.inr rfl, rfl⟩
set_option maxRecDepth 100000 in
theorem lk152_26 : xAt kT152 26 (.getfield 91) 29 := ⟨3, rfl, Or.inr rfl, rfl⟩
set_option maxRecDepth 100000 in
theorem lk152_29 : xAt kT152 29 (.putfield 404) 32 := ⟨3, rfl, Or.inr rfl, rfl⟩
set_option maxRecDepth 100000 in
theorem lk152_32 : xAt kT152 32 (.aload_n 1) 33 := ⟨1, rfl, Or.inr rfl, rfl⟩
set_option maxRecDepth 100000 in
theorem lk152_33 : xAt kT152 33 (.aload_n 0) 34 := ⟨1, rfl, Or.inr rfl, rfl⟩
set_option maxRecDepth 100000 in
theorem lk152_34 : xAt kT152 34 (.getfield 21) 37 := ⟨3, rfl, Or.inr rfl, rfl⟩
set_option maxRecDepth 100000 in
theorem lk152_37 : xAt kT152 37 (.getfield 118) 40 := ⟨3, rfl, Or.inr rfl, rfl⟩
set_option maxRecDepth 100000 in
theorem lk152_40 : xAt kT152 40 (.putfield 192) 43 := ⟨3, rfl, Or.inr rfl, rfl⟩
set_option maxRecDepth 100000 in
theorem lk152_43 : xAt kT152 43 (.aload_n 1) 44 := ⟨1, rfl, Or.inr rfl, rfl⟩
set_option maxRecDepth 100000 in
theorem lk152_44 : xAt kT152 44 (.iload_n 3) 45 := ⟨1, rfl, Or.inr rfl, rfl⟩
set_option maxRecDepth 100000 in
theorem lk152_45 : xAt kT152 45 (.putfield 346) 48 := ⟨3, rfl, Or.inr rfl, rfl⟩
set_option maxRecDepth 100000 in
theorem lk152_48 : xAt kT152 48 (.iload_n 3) 49 := ⟨1, rfl, Or.inr rfl, rfl⟩
set_option maxRecDepth 100000 in
theorem lk152_49 : xAt kT152 49 (.ifCond .le 30) 52 := ⟨3, rfl, Or.inr rfl, rfl⟩
set_option maxRecDepth 100000 in
theorem lk152_52 : xAt kT152 52 (.aload_n 0) 53 := ⟨1, rfl, Or.inr rfl, rfl⟩
set_option maxRecDepth 100000 in
theorem lk152_53 : xAt kT152 53 (.getfield 72) 56 := ⟨3, rfl, Or.inr rfl, rfl⟩
set_option maxRecDepth 100000 in
theorem lk152_56 : xAt kT152 56 (.getfield 405) 59 := ⟨3, rfl, Or.inr rfl, rfl⟩
set_option maxRecDepth 100000 in
theorem lk152_59 : xAt kT152 59 (.aload_n 0) 60 := ⟨1, rfl, Or.inr rfl, rfl⟩
set_option maxRecDepth 100000 in
theorem lk152_60 : xAt kT152 60 (.getfield 72) 63 := ⟨3, rfl, Or.inr rfl, rfl⟩
set_option maxRecDepth 100000 in
theorem lk152_63 : xAt kT152 63 (.iload_n 2) 64 := ⟨1, rfl, Or.inr rfl, rfl⟩
set_option maxRecDepth 100000 in
theorem lk152_64 : xAt kT152 64 (.invokevirtual 406) 67 := ⟨3, rfl, Or.inr rfl, rfl⟩
set_option maxRecDepth 100000 in
theorem lk152_67 : xAt kT152 67 (.aload_n 1) 68 := ⟨1, rfl, Or.inr rfl, rfl⟩
set_option maxRecDepth 100000 in
theorem lk152_68 : xAt kT152 68 (.getfield 409) 71 := ⟨3, rfl, Or.inr rfl, rfl⟩
set_option maxRecDepth 100000 in
theorem lk152_71 : xAt kT152 71 (.iconst 0) 72 := ⟨1, rfl, Or.inr rfl, rfl⟩
set_option maxRecDepth 100000 in
theorem lk152_72 : xAt kT152 72 (.iload_n 3) 73 := ⟨1, rfl, Or.inr rfl, rfl⟩
set_option maxRecDepth 100000 in
theorem lk152_73 : xAt kT152 73 (.bipush 6) 75 := ⟨2, rfl, Or.inr rfl, rfl⟩
set_option maxRecDepth 100000 in
theorem lk152_75 : xAt kT152 75 (.imul) 76 := ⟨1, rfl, Or.inr rfl, rfl⟩
set_option maxRecDepth 100000 in
theorem lk152_76 : xAt kT152 76 (.invokestatic 410) 79 := ⟨3, rfl, Or.inr rfl, rfl⟩
set_option maxRecDepth 100000 in
theorem lk152_79 : xAt kT152 79 (.return_) 80 := ⟨1, rfl, Or.inr rfl, rfl⟩
set_option maxRecDepth 100000 in
theorem lk160_0 : xAt kT160 0 (.aload_n 0) 1 := ⟨1, rfl, Or.inr rfl, rfl⟩
set_option maxRecDepth 100000 in
theorem lk160_1 : xAt kT160 1 (.getfield 21) 4 := ⟨3, rfl, Or.inr rfl, rfl⟩
set_option maxRecDepth 100000 in
theorem lk160_4 : xAt kT160 4 (.getfield 380) 7 := ⟨3, rfl, Or.inr rfl, rfl⟩
set_option maxRecDepth 100000 in
theorem lk160_7 : xAt kT160 7 (.iload_n 1) 8 := ⟨1, rfl, Or.inr rfl, rfl⟩
set_option maxRecDepth 100000 in
theorem lk160_8 : xAt kT160 8 (.iaload) 9 := ⟨1, rfl, Or.inr rfl, rfl⟩
set_option maxRecDepth 100000 in
theorem lk160_9 : xAt kT160 9 (.aload_n 0) 10 := ⟨1, rfl, Or.inr rfl, rfl⟩
set_option maxRecDepth 100000 in
theorem lk160_10 : xAt kT160 10 (.getfield 72) 13 := ⟨3, rfl, Or.inr rfl, rfl⟩
set_option maxRecDepth 100000 in
theorem lk160_13 : xAt kT160 13 (.getfield 100) 16 := ⟨3, rfl, Or.inr rfl, rfl⟩
set_option maxRecDepth 100000 in
theorem lk160_16 : xAt kT160 16 (.if_icmp .gt 53) 19 := ⟨3, rfl, Or.inr rfl, rfl⟩
set_option maxRecDepth 100000 in
theorem lk160_19 : xAt kT160 19 (.aload_n 0) 20 := ⟨1, rfl, Or.inr rfl, rfl⟩
set_option maxRecDepth 100000 in
theorem lk160_20 : xAt kT160 20 (.getfield 21) 23 := ⟨3, rfl, Or.inr rfl, rfl⟩
set_option maxRecDepth 100000 in
theorem lk160_23 : xAt kT160 23 (.getfield 383) 26 := ⟨3, rfl, Or.inr rfl, rfl⟩
set_option maxRecDepth 100000 in
theorem lk160_26 : xAt kT160 26 (.iload_n 1) 27 := ⟨1, rfl, Or.inr rfl, rfl⟩
set_option maxRecDepth 100000 in
theorem lk160_27 : xAt kT160 27 (.iaload) 28 := ⟨1, rfl, Or.inr rfl, rfl⟩
set_option maxRecDepth 100000 in
theorem lk160_28 : xAt kT160 28 (.ifCond .ne 40) 31 := ⟨3, rfl, Or.inr rfl, rfl⟩
set_option maxRecDepth 100000 in
theorem lk160_31 : xAt kT160 31 (.aload_n 0) 32 := ⟨1, rfl, Or.inr rfl, rfl⟩
set_option maxRecDepth 100000 in
theorem lk160_32 : xAt kT160 32 (.getfield 21) 35 := ⟨3, rfl, Or.inr rfl, rfl⟩
set_option maxRecDepth 100000 in
theorem lk160_35 : xAt kT160 35 (.getfield 383) 38 := ⟨3, rfl, Or.inr rfl, rfl⟩
set_option maxRecDepth 100000 in
theorem lk160_38 : xAt kT160 38 (.iload_n 1) 39 := ⟨1, rfl, Or.inr rfl, rfl⟩
set_option maxRecDepth 100000 in
theorem lk160_39 : xAt kT160 39 (.iconst 1) 40 := ⟨1, rfl, Or.inr rfl, rfl⟩
set_option maxRecDepth 100000 in
theorem lk160_40 : xAt kT160 40 (.iastore) 41 := ⟨1, rfl, Or.inr rfl, rfl⟩
set_option maxRecDepth 100000 in
theorem lk160_41 : xAt kT160 41 (.aload_n 0) 42 := ⟨1, rfl, Or.inr rfl, rfl⟩
set_option maxRecDepth 100000 in
theorem lk160_42 : xAt kT160 42 (.iload_n 1) 43 := ⟨1, rfl, Or.inr rfl, rfl⟩
set_option maxRecDepth 100000 in
theorem lk160_43 : xAt kT160 43 (.bipush 7) 45 := ⟨2, rfl, Or.inr rfl, rfl⟩
set_option maxRecDepth 100000 in
theorem lk160_45 : xAt kT160 45 (.invokevirtual 351) 48 := ⟨3, rfl, Or.inr rfl, rfl⟩
set_option maxRecDepth 100000 in
theorem lk160_48 : xAt kT160 48 (.astore_n 3) 49 := ⟨1, rfl, Or.inr rfl, rfl⟩
set_option maxRecDepth 100000 in
theorem lk160_49 : xAt kT160 49 (.aload_n 0) 50 := ⟨1, rfl, Or.inr rfl, rfl⟩
set_option maxRecDepth 100000 in
theorem lk160_50 : xAt kT160 50 (.aload_n 3) 51 := ⟨1, rfl, Or.inr rfl, rfl⟩
set_option maxRecDepth 100000 in
theorem lk160_51 : xAt kT160 51 (.aload_n 0) 52 := ⟨1, rfl, Or.inr rfl, rfl⟩
set_option maxRecDepth 100000 in
theorem lk160_52 : xAt kT160 52 (.getfield 21) 55 := ⟨3, rfl, Or.inr rfl, rfl⟩
set_option maxRecDepth 100000 in
theorem lk160_55 : xAt kT160 55 (.getfield 386) 58 := ⟨3, rfl, Or.inr rfl, rfl⟩
set_option maxRecDepth 100000 in
theorem lk160_58 : xAt kT160 58 (.iload_n 1) 59 := ⟨1, rfl, Or.inr rfl, rfl⟩
set_option maxRecDepth 100000 in
theorem lk160_59 : xAt kT160 59 (.iaload) 60 := ⟨1, rfl, Or.inr rfl, rfl⟩
set_option maxRecDepth 100000 in
theorem lk160_60 : xAt kT160 60 (.invokevirtual 389) 63 := ⟨3, rfl, Or.inr rfl, rfl⟩
set_option maxRecDepth 100000 in
theorem lk160_63 : xAt kT160 63 (.aload_n 0) 64 := ⟨1, rfl, Or.inr rfl, rfl⟩
set_option maxRecDepth 100000 in
theorem lk160_64 : xAt kT160 64 (.aload_n 3) 65 := ⟨1, rfl, Or.inr rfl, rfl⟩
set_option maxRecDepth 100000 in
theorem lk160_65 : xAt kT160 65 (.invokevirtual 362) 68 := ⟨3, rfl, Or.inr rfl, rfl⟩
set_option maxRecDepth 100000 in
theorem lk160_68 : xAt kT160 68 (.return_) 69 := ⟨1, rfl, Or.inr rfl, rfl⟩
set_option maxRecDepth 100000 in
theorem lk160_69 : xAt kT160 69 (.iconst 1) 70 := ⟨1, rfl, Or.inr rfl, rfl⟩
set_option maxRecDepth 100000 in
theorem lk160_70 : xAt kT160 70 (.istore_n 3) 71 := ⟨1, rfl, Or.inr rfl, rfl⟩
set_option maxRecDepth 100000 in
theorem lk160_71 : xAt kT160 71 (.aload_n 0) 72 := ⟨1, rfl, Or.inr rfl, rfl⟩
set_option maxRecDepth 100000 in
theorem lk160_72 : xAt kT160 72 (.getfield 21) 75 := ⟨3, rfl, Or.inr rfl, rfl⟩
set_option maxRecDepth 100000 in
theorem lk160_75 : xAt kT160 75 (.getfield 393) 78 := ⟨3, rfl, Or.inr rfl, rfl⟩
set_option maxRecDepth 100000 in
theorem lk160_78 : xAt kT160 78 (.iload_n 1) 79 := ⟨1, rfl, Or.inr rfl, rfl⟩
set_option maxRecDepth 100000 in
theorem lk160_79 : xAt kT160 79 (.baload) 80 := ⟨1, rfl, Or.inr rfl, rfl⟩
set_option maxRecDepth 100000 in
theorem lk160_80 : xAt kT160 80 (.ifCond .eq 7) 83 := ⟨3, rfl, Or.inr rfl, rfl⟩
set_option maxRecDepth 100000 in
theorem lk160_83 : xAt kT160 83 (.iconst 1) 84 := ⟨1, rfl, Or.inr rfl, rfl⟩
set_option maxRecDepth 100000 in
theorem lk160_84 : xAt kT160 84 (.goto 4) 87 := ⟨3, rfl, Or.inr rfl, rfl⟩
set_option maxRecDepth 100000 in
theorem lk160_87 : xAt kT160 87 (.iconst 4) 88 := ⟨1, rfl, Or.inr rfl, rfl⟩
set_option maxRecDepth 100000 in
theorem lk160_88 : xAt kT160 88 (.istore 4) 90 := ⟨2, rfl, Or.inr rfl, rfl⟩
set_option maxRecDepth 100000 in
theorem lk160_90 : xAt kT160 90 (.aload_n 0) 91 := ⟨1, rfl, Or.inr rfl, rfl⟩
set_option maxRecDepth 100000 in
theorem lk160_91 : xAt kT160 91 (.getfield 21) 94 := ⟨3, rfl, Or.inr rfl, rfl⟩
set_option maxRecDepth 100000 in
theorem lk160_94 : xAt kT160 94 (.getfield 380) 97 := ⟨3, rfl, Or.inr rfl, rfl⟩
set_option maxRecDepth 100000 in
theorem lk160_97 : xAt kT160 97 (.iload_n 1) 98 := ⟨1, rfl, Or.inr rfl, rfl⟩
set_option maxRecDepth 100000 in
theorem lk160_98 : xAt kT160 98 (.iaload) 99 := ⟨1, rfl, Or.inr rfl, rfl⟩
set_option maxRecDepth 100000 in
theorem lk160_99 : xAt kT160 99 (.aload_n 0) 100 := ⟨1, rfl, Or.inr rfl, rfl⟩
set_option maxRecDepth 100000 in
theorem lk160_100 : xAt kT160 100 (.getfield 72) 103 := ⟨3, rfl, Or.inr rfl, rfl⟩
set_option maxRecDepth 100000 in
theorem lk160_103 : xAt kT160 103 (.getfield 103) 106 := ⟨3, rfl, Or.inr rfl, rfl⟩
set_option maxRecDepth 100000 in
theorem lk160_106 : xAt kT160 106 (.if_icmp .gt 103) 109 := ⟨3, rfl, Or.inr rfl, rfl⟩
set_option maxRecDepth 100000 in
theorem lk160_109 : xAt kT160 109 (.aload_n 0) 110 := ⟨1, rfl, Or.inr rfl, rfl⟩
set_option maxRecDepth 100000 in
theorem lk160_110 : xAt kT160 110 (.getfield 21) 113 := ⟨3, rfl, Or.inr rfl, rfl⟩
set_option maxRecDepth 100000 in
theorem lk160_113 : xAt kT160 113 (.getfield 383) 116 := ⟨3, rfl, Or.inr rfl, rfl⟩
set_option maxRecDepth 100000 in
theorem lk160_116 : xAt kT160 116 (.iload_n 1) 117 := ⟨1, rfl, Or.inr rfl, rfl⟩
set_option maxRecDepth 100000 in
theorem lk160_117 : xAt kT160 117 (.iaload) 118 := ⟨1, rfl, Or.inr rfl, rfl⟩
set_option maxRecDepth 100000 in
theorem lk160_118 : xAt kT160 118 (.iload 4) 120 := ⟨2, rfl, Or.inr rfl, rfl⟩
set_option maxRecDepth 100000 in
theorem lk160_120 : xAt kT160 120 (.if_icmp .ge 89) 123 := ⟨3, rfl, Or.inr rfl, rfl⟩
set_option maxRecDepth 100000 in
theorem lk160_123 : xAt kT160 123 (.aload_n 0) 124 := ⟨1, rfl, Or.inr rfl, rfl⟩
set_option maxRecDepth 100000 in
theorem lk160_124 : xAt kT160 124 (.getfield 21) 127 := ⟨3, rfl, Or.inr rfl, rfl⟩
set_option maxRecDepth 100000 in
theorem lk160_127 : xAt kT160 127 (.getfield 380) 130 := ⟨3, rfl, Or.inr rfl, rfl⟩
set_option maxRecDepth 100000 in
theorem lk160_130 : xAt kT160 130 (.iload_n 1) 131 := ⟨1, rfl, Or.inr rfl, rfl⟩
set_option maxRecDepth 100000 in
theorem lk160_131 : xAt kT160 131 (.iaload) 132 := ⟨1, rfl, Or.inr rfl, rfl⟩
set_option maxRecDepth 100000 in
theorem lk160_132 : xAt kT160 132 (.istore 5) 134 := ⟨2, rfl, Or.inr rfl, rfl⟩
set_option maxRecDepth 100000 in
theorem lk160_134 : xAt kT160 134 (.bipush 6) 136 := ⟨2, rfl, Or.inr rfl, rfl⟩
set_option maxRecDepth 100000 in
theorem lk160_136 : xAt kT160 136 (.aload_n 0) 137 := ⟨1, rfl, Or.inr rfl, rfl⟩
set_option maxRecDepth 100000 in
theorem lk160_137 : xAt kT160 137 (.getfield 72) 140 := ⟨3, rfl, Or.inr rfl, rfl⟩
set_option maxRecDepth 100000 in
theorem lk160_140 : xAt kT160 140 (.getfield 103) 143 := ⟨3, rfl, Or.inr rfl, rfl⟩
set_option maxRecDepth 100000 in
theorem lk160_143 : xAt kT160 143 (.iload 5) 145 := ⟨2, rfl, Or.inr rfl, rfl⟩
set_option maxRecDepth 100000 in
theorem lk160_145 : xAt kT160 145 (.isub) 146 := ⟨1, rfl, Or.inr rfl, rfl⟩
set_option maxRecDepth 100000 in
theorem lk160_146 : xAt kT160 146 (.iconst 1) 147 := ⟨1, rfl, Or.inr rfl, rfl⟩
set_option maxRecDepth 100000 in
theorem lk160_147 : xAt kT160 147 (.iadd) 148 := ⟨1, rfl, Or.inr rfl, rfl⟩
set_option maxRecDepth 100000 in
theorem lk160_148 : xAt kT160 148 (.invokestatic 397) 151 := ⟨3, rfl, Or.inr rfl, rfl⟩
set_option maxRecDepth 100000 in
theorem lk160_151 : xAt kT160 151 (.istore 6) 153 := ⟨2, rfl, Or.inr rfl, rfl⟩
set_option maxRecDepth 100000 in
theorem lk160_153 : xAt kT160 153 (.aload_n 0) 154 := ⟨1, rfl, Or.inr rfl, rfl⟩
set_option maxRecDepth 100000 in
theorem lk160_154 : xAt kT160 154 (.getfield 21) 157 := ⟨3, rfl, Or.inr rfl, rfl⟩
set_option maxRecDepth 100000 in
theorem lk160_157 : xAt kT160 157 (.getfield 383) 160 := ⟨3, rfl, Or.inr rfl, rfl⟩
set_option maxRecDepth 100000 in
theorem lk160_160 : xAt kT160 160 (.iload_n 1) 161 := ⟨1, rfl, Or.inr rfl, rfl⟩
set_option maxRecDepth 100000 in
theorem lk160_161 : xAt kT160 161 (.dup2) 162 := ⟨1, rfl, Or.inr rfl, rfl⟩
set_option maxRecDepth 100000 in
theorem lk160_162 : xAt kT160 162 (.iaload) 163 := ⟨1, rfl, Or.inr rfl, rfl⟩
set_option maxRecDepth 100000 in
theorem lk160_163 : xAt kT160 163 (.iconst 1) 164 := ⟨1, rfl, Or.inr rfl, rfl⟩
set_option maxRecDepth 100000 in
theorem lk160_164 : xAt kT160 164 (.iadd) 165 := ⟨1, rfl, Or.inr rfl, rfl⟩
set_option maxRecDepth 100000 in
theorem lk160_165 : xAt kT160 165 (.iastore) 166 := ⟨1, rfl, Or.inr rfl, rfl⟩
set_option maxRecDepth 100000 in
theorem lk160_166 : xAt kT160 166 (.aload_n 0) 167 := ⟨1, rfl, Or.inr rfl, rfl⟩
set_option maxRecDepth 100000 in
theorem lk160_167 : xAt kT160 167 (.getfield 21) 170 := ⟨3, rfl, Or.inr rfl, rfl⟩
set_option maxRecDepth 100000 in
theorem lk160_170 : xAt kT160 170 (.getfield 380) 173 := ⟨3, rfl, Or.inr rfl, rfl⟩
set_option maxRecDepth 100000 in
theorem lk160_173 : xAt kT160 173 (.iload_n 1) 174 := ⟨1, rfl, Or.inr rfl, rfl⟩
set_option maxRecDepth 100000 in
theorem lk160_174 : xAt kT160 174 (.iload 5) 176 := ⟨2, rfl, Or.inr rfl, rfl⟩
set_option maxRecDepth 100000 in
theorem lk160_176 : xAt kT160 176 (.iload 6) 178 := ⟨2, rfl, Or.inr rfl, rfl⟩
set_option maxRecDepth 100000 in
theorem lk160_178 : xAt kT160 178 (.iadd) 179 := ⟨1, rfl, Or.inr rfl, rfl⟩
set_option maxRecDepth 100000 in
theorem lk160_179 : xAt kT160 179 (.iastore) 180 := ⟨1, rfl, Or.inr rfl, rfl⟩
set_option maxRecDepth 100000 in
theorem lk160_180 : xAt kT160 180 (.aload_n 0) 181 := ⟨1, rfl, Or.inr rfl, rfl⟩
set_option maxRecDepth 100000 in
theorem lk160_181 : xAt kT160 181 (.iload_n 1) 182 := ⟨1, rfl, Or.inr rfl, rfl⟩
set_option maxRecDepth 100000 in
theorem lk160_182 : xAt kT160 182 (.iconst 5) 183 := ⟨1, rfl, Or.inr rfl, rfl⟩
set_option maxRecDepth 100000 in
theorem lk160_183 : xAt kT160 183 (.invokevirtual 351) 186 := ⟨3, rfl, Or.inr rfl, rfl⟩
set_option maxRecDepth 100000 in
theorem lk160_186 : xAt kT160 186 (.astore 7) 188 := ⟨2, rfl, Or.inr rfl, rfl⟩
set_option maxRecDepth 100000 in
theorem lk160_188 : xAt kT160 188 (.aload_n 0) 189 := ⟨1, rfl, Or.inr rfl, rfl⟩
set_option maxRecDepth 100000 in
theorem lk160_189 : xAt kT160 189 (.aload 7) 191 := ⟨2, rfl, Or.inr rfl, rfl⟩
set_option maxRecDepth 100000 in
theorem lk160_191 : xAt kT160 191 (.iload 5) 193 := ⟨2, rfl, Or.inr rfl, rfl⟩
set_option maxRecDepth 100000 in
theorem lk160_193 : xAt kT160 193 (.iload 6) 195 := ⟨2, rfl, Or.inr rfl, rfl⟩
set_option maxRecDepth 100000 in
theorem lk160_195 : xAt kT160 195 (.invokevirtual 400) 198 := ⟨3, rfl, Or.inr rfl, rfl⟩
set_option maxRecDepth 100000 in
theorem lk160_198 : xAt kT160 198 (.aload_n 0) 199 := ⟨1, rfl, Or.inr rfl, rfl⟩
set_option maxRecDepth 100000 in
theorem lk160_199 : xAt kT160 199 (.aload 7) 201 := ⟨2, rfl, Or.inr rfl, rfl⟩
set_option maxRecDepth 100000 in
theorem lk160_201 : xAt kT160 201 (.invokevirtual 362) 204 := ⟨3, rfl, Or.inr rfl, rfl⟩
set_option maxRecDepth 100000 in
theorem lk160_204 : xAt kT160 204 (.iconst 0) 205 := ⟨1, rfl, Or.inr rfl, rfl⟩
set_option maxRecDepth 100000 in
theorem lk160_205 : xAt kT160 205 (.istore_n 3) 206 := ⟨1, rfl, Or.inr rfl, rfl⟩
set_option maxRecDepth 100000 in
theorem lk160_206 : xAt kT160 206 (.goto (-116)) 209 := ⟨3, rfl, Or.inr rfl, rfl⟩
set_option maxRecDepth 100000 in
theorem lk160_209 : xAt kT160 209 (.iload_n 3) 210 := ⟨1, rfl, Or.inr rfl, rfl⟩
set_option maxRecDepth 100000 in
theorem lk160_210 : xAt kT160 210 (.ifCond .eq 37) 213 := ⟨3, rfl, Or.inr rfl, rfl⟩
set_option maxRecDepth 100000 in
theorem lk160_213 : xAt kT160 213 (.iload_n 2) 214 := ⟨1, rfl, Or.inr rfl, rfl⟩
set_option maxRecDepth 100000 in
theorem lk160_214 : xAt kT160 214 (.ifCond .eq 33) 217 := ⟨3, rfl, Or.inr rfl, rfl⟩
set_option maxRecDepth 100000 in
theorem lk160_217 : xAt kT160 217 (.aload_n 0) 218 := ⟨1, rfl, Or.inr rfl, rfl⟩
set_option maxRecDepth 100000 in
theorem lk160_218 : xAt kT160 218 (.iload_n 1) 219 := ⟨1, rfl, Or.inr rfl, rfl⟩
set_option maxRecDepth 100000 in
theorem lk160_219 : xAt kT160 219 (.iconst 5) 220 := ⟨1, rfl, Or.inr rfl, rfl⟩
set_option maxRecDepth 100000 in
theorem lk160_220 : xAt kT160 220 (.invokevirtual 351) 223 := ⟨3, rfl, Or.inr rfl, rfl⟩
set_option maxRecDepth 100000 in
theorem lk160_223 : xAt kT160 223 (.astore 5) 225 := ⟨2, rfl, Or.inr rfl, rfl⟩
set_option maxRecDepth 100000 in
theorem lk160_225 : xAt kT160 225 (.aload_n 0) 226 := ⟨1, rfl, Or.inr rfl, rfl⟩
set_option maxRecDepth 100000 in
theorem lk160_226 : xAt kT160 226 (.aload 5) 228 := ⟨2, rfl, Or.inr rfl, rfl⟩
set_option maxRecDepth 100000 in
theorem lk160_228 : xAt kT160 228 (.aload_n 0) 229 := ⟨1, rfl, Or.inr rfl, rfl⟩
set_option maxRecDepth 100000 in
theorem lk160_229 : xAt kT160 229 (.getfield 21) 232 := ⟨3, rfl, Or.inr rfl, rfl⟩
set_option maxRecDepth 100000 in
theorem lk160_232 : xAt kT160 232 (.getfield 380) 235 := ⟨3, rfl, Or.inr rfl, rfl⟩
set_option maxRecDepth 100000 in
theorem lk160_235 : xAt kT160 235 (.iload_n 1) 236 := ⟨1, rfl, Or.inr rfl, rfl⟩
set_option maxRecDepth 100000 in
theorem lk160_236 : xAt kT160 236 (.iaload) 237 := ⟨1, rfl, Or.inr rfl, rfl⟩
set_option maxRecDepth 100000 in
theorem lk160_237 : xAt kT160 237 (.iconst 0) 238 := ⟨1, rfl, Or.inr rfl, rfl⟩
set_option maxRecDepth 100000 in
theorem lk160_238 : xAt kT160 238 (.invokevirtual 400) 241 := ⟨3, rfl, Or.inr rfl, rfl⟩
set_option maxRecDepth 100000 in
theorem lk160_241 : xAt kT160 241 (.aload_n 0) 242 := ⟨1, rfl, Or.inr rfl, rfl⟩
set_option maxRecDepth 100000 in
theorem lk160_242 : xAt kT160 242 (.aload 5) 244 := ⟨2, rfl, Or.inr rfl, rfl⟩
set_option maxRecDepth 100000 in
theorem lk160_244 : xAt kT160 244 (.invokevirtual 362) 247 := ⟨3, rfl, Or.inr rfl, rfl⟩
set_option maxRecDepth 100000 in
theorem lk160_247 : xAt kT160 247 (.return_) 248 := ⟨1, rfl, Or.inr rfl, rfl⟩
set_option maxRecDepth 100000 in
theorem lk137_0 : xAt kT137 0 (.aload_n 0) 1 := ⟨1, rfl, Or.inr rfl, rfl⟩
set_option maxRecDepth 100000 in
theorem lk137_1 : xAt kT137 1 (.getfield 21) 4 := ⟨3, rfl, Or.inr rfl, rfl⟩
set_option maxRecDepth 100000 in
theorem lk137_4 : xAt kT137 4 (.iload_n 1) 5 := ⟨1, rfl, Or.inr rfl, rfl⟩
set_option maxRecDepth 100000 in
theorem lk137_5 : xAt kT137 5 (.putfield 112) 8 := ⟨3, rfl, Or.inr rfl, rfl⟩
set_option maxRecDepth 100000 in
theorem lk137_8 : xAt kT137 8 (.aload_n 0) 9 := ⟨1, rfl, Or.inr rfl, rfl⟩
set_option maxRecDepth 100000 in
theorem lk137_9 : xAt kT137 9 (.getfield 21) 12 := ⟨3, rfl, Or.inr rfl, rfl⟩
set_option maxRecDepth 100000 in
theorem lk137_12 : xAt kT137 12 (.aload_n 0) 13 := ⟨1, rfl, Or.inr rfl, rfl⟩
set_option maxRecDepth 100000 in
theorem lk137_13 : xAt kT137 13 (.getfield 63) 16 := ⟨3, rfl, Or.inr rfl, rfl⟩
set_option maxRecDepth 100000 in
theorem lk137_16 : xAt kT137 16 (.getfield 241) 19 := ⟨3, rfl, Or.inr rfl, rfl⟩
set_option maxRecDepth 100000 in
theorem lk137_19 : xAt kT137 19 (.putfield 453) 22 := ⟨3, rfl, Or.inr rfl, rfl⟩
set_option maxRecDepth 100000 in
theorem lk137_22 : xAt kT137 22 (.aload_n 0) 23 := ⟨1, rfl, Or.inr rfl, rfl⟩
set_option maxRecDepth 100000 in
theorem lk137_23 : xAt kT137 23 (.getfield 21) 26 := ⟨3, rfl, Or.inr rfl, rfl⟩
set_option maxRecDepth 100000 in
theorem lk137_26 : xAt kT137 26 (.getfield 459) 29 := ⟨3, rfl, Or.inr rfl, rfl⟩
set_option maxRecDepth 100000 in
theorem lk137_29 : xAt kT137 29 (.iload_n 1) 30 := ⟨1, rfl, Or.inr rfl, rfl⟩
set_option maxRecDepth 100000 in
theorem lk137_30 : xAt kT137 30 (.iaload) 31 := ⟨1, rfl, Or.inr rfl, rfl⟩
set_option maxRecDepth 100000 in
theorem lk137_31 : xAt kT137 31 (.aload_n 0) 32 := ⟨1, rfl, Or.inr rfl, rfl⟩
set_option maxRecDepth 100000 in
theorem lk137_32 : xAt kT137 32 (.getfield 72) 35 := ⟨3, rfl, Or.inr rfl, rfl⟩
set_option maxRecDepth 100000 in
theorem lk137_35 : xAt kT137 35 (.getfield 103) 38 := ⟨3, rfl, Or.inr rfl, rfl⟩
set_option maxRecDepth 100000 in
theorem lk137_38 : xAt kT137 38 (.if_icmp .ne 17) 41 := ⟨3, rfl, Or.inr rfl, rfl⟩
set_option maxRecDepth 100000 in
theorem lk137_41 : xAt kT137 41 (.aload_n 0) 42 := ⟨1, rfl, Or.inr rfl, rfl⟩
set_option maxRecDepth 100000 in
theorem lk137_42 : xAt kT137 42 (.aload_n 0) 43 := ⟨1, rfl, Or.inr rfl, rfl⟩
set_option maxRecDepth 100000 in
theorem lk137_43 : xAt kT137 43 (.iload_n 1) 44 := ⟨1, rfl, Or.inr rfl, rfl⟩
set_option maxRecDepth 100000 in
theorem lk137_44 : xAt kT137 44 (.bipush 9) 46 := ⟨2, rfl, Or.inr rfl, rfl⟩
set_option maxRecDepth 100000 in
theorem lk137_46 : xAt kT137 46 (.invokevirtual 351) 49 := ⟨3, rfl, Or.inr rfl, rfl⟩
set_option maxRecDepth 100000 in
theorem lk137_49 : xAt kT137 49 (.invokevirtual 362) 52 := ⟨3, rfl, Or.inr rfl, rfl⟩
set_option maxRecDepth 100000 in
theorem lk137_52 : xAt kT137 52 (.goto 9) 55 := ⟨3, rfl, Or.inr rfl, rfl⟩
set_option maxRecDepth 100000 in
theorem lk137_55 : xAt kT137 55 (.aload_n 0) 56 := ⟨1, rfl, Or.inr rfl, rfl⟩
set_option maxRecDepth 100000 in
theorem lk137_56 : xAt kT137 56 (.iload_n 1) 57 := ⟨1, rfl, Or.inr rfl, rfl⟩
set_option maxRecDepth 100000 in
theorem lk137_57 : xAt kT137 57 (.iconst 0) 58 := ⟨1, rfl, Or.inr rfl, rfl⟩
set_option maxRecDepth 100000 in
theorem lk137_58 : xAt kT137 58 (.invokevirtual 376) 61 := ⟨3, rfl, Or.inr rfl, rfl⟩
set_option maxRecDepth 100000 in
theorem lk137_61 : xAt kT137 61 (.return_) 62 := ⟨1, rfl, Or.inr rfl, rfl⟩
set_option maxRecDepth 100000 in
theorem lk138_0 : xAt kT138 0 (.aload_n 1) 1 := ⟨1, rfl, Or.inr rfl, rfl⟩
set_option maxRecDepth 100000 in
theorem lk138_1 : xAt kT138 1 (.getfield 342) 4 := ⟨3, rfl, Or.inr rfl, rfl⟩
set_option maxRecDepth 100000 in
theorem lk138_4 : xAt kT138 4 (.aload_n 0) 5 := ⟨1, rfl, Or.inr rfl, rfl⟩
set_option maxRecDepth 100000 in
theorem lk138_5 : xAt kT138 5 (.getfield 88) 8 := ⟨3, rfl, Or.inr rfl, rfl⟩
set_option maxRecDepth 100000 in
theorem lk138_8 : xAt kT138 8 (.if_icmp .ne 25) 11 := ⟨3, rfl, Or.inr rfl, rfl⟩
set_option maxRecDepth 100000 in
theorem lk138_11 : xAt kT138 11 (.aload_n 0) 12 := ⟨1, rfl, Or.inr rfl, rfl⟩
set_option maxRecDepth 100000 in
theorem lk138_12 : xAt kT138 12 (.getfield 85) 15 := ⟨3, rfl, Or.inr rfl, rfl⟩
set_option maxRecDepth 100000 in
theorem lk138_15 : xAt kT138 15 (.iconst 3) 16 := ⟨1, rfl, Or.inr rfl, rfl⟩
set_option maxRecDepth 100000 in
theorem lk138_16 : xAt kT138 16 (.if_icmp .ne 17) 19 := ⟨3, rfl, Or.inr rfl, rfl⟩
set_option maxRecDepth 100000 in
theorem lk138_19 : xAt kT138 19 (.aload_n 0) 20 := ⟨1, rfl, Or.inr rfl, rfl⟩
set_option maxRecDepth 100000 in
theorem lk138_20 : xAt kT138 20 (.invokevirtual 373) 23 := ⟨3, rfl, Or.inr rfl, rfl⟩
set_option maxRecDepth 100000 in
theorem lk138_23 : xAt kT138 23 (.aload_n 1) 24 := ⟨1, rfl, Or.inr rfl, rfl⟩
set_option maxRecDepth 100000 in
theorem lk138_24 : xAt kT138 24 (.getfield 181) 27 := ⟨3, rfl, Or.inr rfl, rfl⟩
set_option maxRecDepth 100000 in
theorem lk138_27 : xAt kT138 27 (.ishr) 28 := ⟨1, rfl, Or.inr rfl, rfl⟩
set_option maxRecDepth 100000 in
theorem lk138_28 : xAt kT138 28 (.iconst 1) 29 := ⟨1, rfl, Or.inr rfl, rfl⟩
set_option maxRecDepth 100000 in
theorem lk138_29 : xAt kT138 29 (.iand) 30 := ⟨1, rfl, Or.inr rfl, rfl⟩
set_option maxRecDepth 100000 in
theorem lk138_30 : xAt kT138 30 (.ifCond .ne 5) 33 := ⟨3, rfl, Or.inr rfl, rfl⟩
set_option maxRecDepth 100000 in
theorem lk138_33 : xAt kT138 33 (.iconst 0) 34 := ⟨1, rfl, Or.inr rfl, rfl⟩
set_option maxRecDepth 100000 in
theorem lk138_34 : xAt kT138 34 (.ireturn) 35 := ⟨1, rfl, Or.inr rfl, rfl⟩
set_option maxRecDepth 100000 in
theorem lk138_35 : xAt kT138 35 (.aload_n 0) 36 := ⟨1, rfl, Or.inr rfl, rfl⟩
set_option maxRecDepth 100000 in
theorem lk138_36 : xAt kT138 36 (.getfield 21) 39 := ⟨3, rfl, Or.inr rfl, rfl⟩
set_option maxRecDepth 100000 in
theorem lk138_39 : xAt kT138 39 (.getfield 431) 42 := ⟨3, rfl, Or.inr rfl, rfl⟩
set_option maxRecDepth 100000 in
theorem lk138_42 : xAt kT138 42 (.aload_n 1) 43 := ⟨1, rfl, Or.inr rfl, rfl⟩
set_option maxRecDepth 100000 in
theorem lk138_43 : xAt kT138 43 (.getfield 181) 46 := ⟨3, rfl, Or.inr rfl, rfl⟩
set_option maxRecDepth 100000 in
theorem lk138_46 : xAt kT138 46 (.aload_n 0) 47 := ⟨1, rfl, Or.inr rfl, rfl⟩
set_option maxRecDepth 100000 in
theorem lk138_47 : xAt kT138 47 (.getfield 63) 50 := ⟨3, rfl, Or.inr rfl, rfl⟩
set_option maxRecDepth 100000 in
theorem lk138_50 : xAt kT138 50 (.getfield 241) 53 := ⟨3, rfl, Or.inr rfl, rfl⟩
set_option maxRecDepth 100000 in
theorem lk138_53 : xAt kT138 53 (.iastore) 54 := ⟨1, rfl, Or.inr rfl, rfl⟩
set_option maxRecDepth 100000 in
theorem lk138_54 : xAt kT138 54 (.aload_n 0) 55 := ⟨1, rfl, Or.inr rfl, rfl⟩
set_option maxRecDepth 100000 in
theorem lk138_55 : xAt kT138 55 (.getfield 21) 58 := ⟨3, rfl, Or.inr rfl, rfl⟩
set_option maxRecDepth 100000 in
theorem lk138_58 : xAt kT138 58 (.getfield 456) 61 := ⟨3, rfl, Or.inr rfl, rfl⟩
set_option maxRecDepth 100000 in
theorem lk138_61 : xAt kT138 61 (.aload_n 1) 62 := ⟨1, rfl, Or.inr rfl, rfl⟩
set_option maxRecDepth 100000 in
theorem lk138_62 : xAt kT138 62 (.getfield 181) 65 := ⟨3, rfl, Or.inr rfl, rfl⟩
set_option maxRecDepth 100000 in
theorem lk138_65 : xAt kT138 65 (.iconst 1) 66 := ⟨1, rfl, Or.inr rfl, rfl⟩
set_option maxRecDepth 100000 in
theorem lk138_66 : xAt kT138 66 (.bastore) 67 := ⟨1, rfl, Or.inr rfl, rfl⟩
set_option maxRecDepth 100000 in
theorem lk138_67 : xAt kT138 67 (.aload_n 0) 68 := ⟨1, rfl, Or.inr rfl, rfl⟩
set_option maxRecDepth 100000 in
theorem lk138_68 : xAt kT138 68 (.getfield 21) 71 := ⟨3, rfl, Or.inr rfl, rfl⟩
set_option maxRecDepth 100000 in
theorem lk138_71 : xAt kT138 71 (.getfield 462) 74 := ⟨3, rfl, Or.inr rfl, rfl⟩
set_option maxRecDepth 100000 in
theorem lk138_74 : xAt kT138 74 (.aload_n 1) 75 := ⟨1, rfl, Or.inr rfl, rfl⟩
set_option maxRecDepth 100000 in
theorem lk138_75 : xAt kT138 75 (.getfield 181) 78 := ⟨3, rfl, Or.inr rfl, rfl⟩
set_option maxRecDepth 100000 in
theorem lk138_78 : xAt kT138 78 (.aload_n 0) 79 := ⟨1, rfl, Or.inr rfl, rfl⟩
set_option maxRecDepth 100000 in
theorem lk138_79 : xAt kT138 79 (.getfield 21) 82 := ⟨3, rfl, Or.inr rfl, rfl⟩
set_option maxRecDepth 100000 in
theorem lk138_82 : xAt kT138 82 (.getfield 462) 85 := ⟨3, rfl, Or.inr rfl, rfl⟩
set_option maxRecDepth 100000 in
theorem lk138_85 : xAt kT138 85 (.aload_n 1) 86 := ⟨1, rfl, Or.inr rfl, rfl⟩
set_option maxRecDepth 100000 in
theorem lk138_86 : xAt kT138 86 (.getfield 181) 89 := ⟨3, rfl, Or.inr rfl, rfl⟩
set_option maxRecDepth 100000 in
theorem lk138_89 : xAt kT138 89 (.iaload) 90 := ⟨1, rfl, Or.inr rfl, rfl⟩
set_option maxRecDepth 100000 in
theorem lk138_90 : xAt kT138 90 (.aload_n 1) 91 := ⟨1, rfl, Or.inr rfl, rfl⟩
set_option maxRecDepth 100000 in
theorem lk138_91 : xAt kT138 91 (.getfield 192) 94 := ⟨3, rfl, Or.inr rfl, rfl⟩
set_option maxRecDepth 100000 in
theorem lk138_94 : xAt kT138 94 (.invokestatic 293) 97 := ⟨3, rfl, Or.inr rfl, rfl⟩
set_option maxRecDepth 100000 in
theorem lk138_97 : xAt kT138 97 (.iastore) 98 := ⟨1, rfl, Or.inr rfl, rfl⟩
set_option maxRecDepth 100000 in
theorem lk138_98 : xAt kT138 98 (.aload_n 0) 99 := ⟨1, rfl, Or.inr rfl, rfl⟩
set_option maxRecDepth 100000 in
theorem lk138_99 : xAt kT138 99 (.dup) 100 := ⟨1, rfl, Or.inr rfl, rfl⟩
set_option maxRecDepth 100000 in
theorem lk138_100 : xAt kT138 100 (.getfield 146) 103 := ⟨3, rfl, Or.inr rfl, rfl⟩
set_option maxRecDepth 100000 in
theorem lk138_103 : xAt kT138 103 (.sipush 392) 106 := ⟨3, rfl, Or.inr rfl, rfl⟩
set_option maxRecDepth 100000 in
theorem lk138_106 : xAt kT138 106 (.ior) 107 := ⟨1, rfl, Or.inr rfl, rfl⟩
set_option maxRecDepth 100000 in
theorem lk138_107 : xAt kT138 107 (.putfield 146) 110 := ⟨3, rfl, Or.inr rfl, rfl⟩
set_option maxRecDepth 100000 in
theorem lk138_110 : xAt kT138 110 (.iconst 1) 111 := ⟨1, rfl, Or.inr rfl, rfl⟩
set_option maxRecDepth 100000 in
theorem lk138_111 : xAt kT138 111 (.ireturn) 112 := ⟨1, rfl, Or.inr rfl, rfl⟩
set_option maxRecDepth 100000 in
theorem lk141_0 : xAt kT141 0 (.aload_n 0) 1 := ⟨1, rfl, Or.inr rfl, rfl⟩
set_option maxRecDepth 100000 in
theorem lk141_1 : xAt kT141 1 (.getfield 72) 4 := ⟨3, rfl, Or.inr rfl, rfl⟩
set_option maxRecDepth 100000 in
theorem lk141_4 : xAt kT141 4 (.aload_n 0) 5 := ⟨1, rfl, Or.inr rfl, rfl⟩
set_option maxRecDepth 100000 in
theorem lk141_5 : xAt kT141 5 (.getfield 72) 8 := ⟨3, rfl, Or.inr rfl, rfl⟩
set_option maxRecDepth 100000 in
theorem lk141_8 : xAt kT141 8 (.getfield 103) 11 := ⟨3, rfl, Or.inr rfl, rfl⟩
set_option maxRecDepth 100000 in
theorem lk141_11 : xAt kT141 11 (.invokevirtual 311) 14 := ⟨3, rfl, Or.inr rfl, rfl⟩
set_option maxRecDepth 100000 in
theorem lk141_14 : xAt kT141 14 (.istore_n 2) 15 := ⟨1, rfl, Or.inr rfl, rfl⟩
set_option maxRecDepth 100000 in
theorem lk141_15 : xAt kT141 15 (.aload_n 1) 16 := ⟨1, rfl, Or.inr rfl, rfl⟩
set_option maxRecDepth 100000 in
theorem lk141_16 : xAt kT141 16 (.getfield 370) 19 := ⟨3, rfl, Or.inr rfl, rfl⟩
set_option maxRecDepth 100000 in
theorem lk141_19 : xAt kT141 19 (.iload_n 2) 20 := ⟨1, rfl, Or.inr rfl, rfl⟩
set_option maxRecDepth 100000 in
theorem lk141_20 : xAt kT141 20 (.if_icmp .gt 25) 23 := ⟨3, rfl, Or.inr rfl, rfl⟩
set_option maxRecDepth 100000 in
theorem lk141_23 : xAt kT141 23 (.aload_n 1) 24 := ⟨1, rfl, Or.inr rfl, rfl⟩
set_option maxRecDepth 100000 in
theorem lk141_24 : xAt kT141 24 (.getfield 370) 27 := ⟨3, rfl, Or.inr rfl, rfl⟩
set_option maxRecDepth 100000 in
theorem lk141_27 : xAt kT141 27 (.iload_n 2) 28 := ⟨1, rfl, Or.inr rfl, rfl⟩
set_option maxRecDepth 100000 in
theorem lk141_28 : xAt kT141 28 (.if_icmp .ne 21) 31 := ⟨3, rfl, Or.inr rfl, rfl⟩
set_option maxRecDepth 100000 in
theorem lk141_31 : xAt kT141 31 (.aload_n 1) 32 := ⟨1, rfl, Or.inr rfl, rfl⟩
set_option maxRecDepth 100000 in
theorem lk141_32 : xAt kT141 32 (.getfield 189) 35 := ⟨3, rfl, Or.inr rfl, rfl⟩
set_option maxRecDepth 100000 in
theorem lk141_35 : xAt kT141 35 (.aload_n 0) 36 := ⟨1, rfl, Or.inr rfl, rfl⟩
set_option maxRecDepth 100000 in
theorem lk141_36 : xAt kT141 36 (.getfield 72) 39 := ⟨3, rfl, Or.inr rfl, rfl⟩
set_option maxRecDepth 100000 in
theorem lk141_39 : xAt kT141 39 (.getfield 103) 42 := ⟨3, rfl, Or.inr rfl, rfl⟩
set_option maxRecDepth 100000 in
theorem lk141_42 : xAt kT141 42 (.if_icmp .lt 7) 45 := ⟨3, rfl, Or.inr rfl, rfl⟩
set_option maxRecDepth 100000 in
theorem lk141_45 : xAt kT141 45 (.iconst 1) 46 := ⟨1, rfl, Or.inr rfl, rfl⟩
set_option maxRecDepth 100000 in
theorem lk141_46 : xAt kT141 46 (.goto 4) 49 := ⟨3, rfl, Or.inr rfl, rfl⟩
set_option maxRecDepth 100000 in
theorem lk141_49 : xAt kT141 49 (.iconst 0) 50 := ⟨1, rfl, Or.inr rfl, rfl⟩
set_option maxRecDepth 100000 in
theorem lk141_50 : xAt kT141 50 (.ireturn) 51 := ⟨1, rfl, Or.inr rfl, rfl⟩
set_option maxRecDepth 100000 in
theorem lk142_0 : xAt kT142 0 (.aload_n 0) 1 := ⟨1, rfl, Or.inr rfl, rfl⟩
set_option maxRecDepth 100000 in
theorem lk142_1 : xAt kT142 1 (.getfield 72) 4 := ⟨3, rfl, Or.inr rfl, rfl⟩
set_option maxRecDepth 100000 in
theorem lk142_4 : xAt kT142 4 (.getfield 106) 7 := ⟨3, rfl, Or.inr rfl, rfl⟩
set_option maxRecDepth 100000 in
theorem lk142_7 : xAt kT142 7 (.bipush 127) 9 := ⟨2, rfl, Or.inr rfl, rfl⟩
set_option maxRecDepth 100000 in
theorem lk142_9 : xAt kT142 9 (.iand) 10 := ⟨1, rfl, Or.inr rfl, rfl⟩
set_option maxRecDepth 100000 in
theorem lk142_10 : xAt kT142 10 (.istore_n 2) 11 := ⟨1, rfl, Or.inr rfl, rfl⟩
set_option maxRecDepth 100000 in
theorem lk142_11 : xAt kT142 11 (.aload_n 0) 12 := ⟨1, rfl, Or.inr rfl, rfl⟩
set_option maxRecDepth 100000 in
theorem lk142_12 : xAt kT142 12 (.getfield 72) 15 := ⟨3, rfl, Or.inr rfl, rfl⟩
set_option maxRecDepth 100000 in
theorem lk142_15 : xAt kT142 15 (.getfield 106) 18 := ⟨3, rfl, Or.inr rfl, rfl⟩
set_option maxRecDepth 100000 in
theorem lk142_18 : xAt kT142 18 (.bipush 7) 20 := ⟨2, rfl, Or.inr rfl, rfl⟩
set_option maxRecDepth 100000 in
theorem lk142_20 : xAt kT142 20 (.ishr) 21 := ⟨1, rfl, Or.inr rfl, rfl⟩
set_option maxRecDepth 100000 in
theorem lk142_21 : xAt kT142 21 (.bipush 127) 23 := ⟨2, rfl, Or.inr rfl, rfl⟩
set_option maxRecDepth 100000 in
theorem lk142_23 : xAt kT142 23 (.iand) 24 := ⟨1, rfl, Or.inr rfl, rfl⟩
set_option maxRecDepth 100000 in
theorem lk142_24 : xAt kT142 24 (.istore_n 3) 25 := ⟨1, rfl, Or.inr rfl, rfl⟩
set_option maxRecDepth 100000 in
theorem lk142_25 : xAt kT142 25 (.iconst 2) 26 := ⟨1, rfl, Or.inr rfl, rfl⟩
set_option maxRecDepth 100000 in
theorem lk142_26 : xAt kT142 26 (.iload_n 1) 27 := ⟨1, rfl, Or.inr rfl, rfl⟩
set_option maxRecDepth 100000 in
theorem lk142_27 : xAt kT142 27 (.iload_n 2) 28 := ⟨1, rfl, Or.inr rfl, rfl⟩
set_option maxRecDepth 100000 in
theorem lk142_28 : xAt kT142 28 (.iand) 29 := ⟨1, rfl, Or.inr rfl, rfl⟩
set_option maxRecDepth 100000 in
theorem lk142_29 : xAt kT142 29 (.invokestatic 140) 32 := ⟨3, rfl, Or.inr rfl, rfl⟩
set_option maxRecDepth 100000 in
theorem lk142_32 : xAt kT142 32 (.imul) 33 := ⟨1, rfl, Or.inr rfl, rfl⟩
set_option maxRecDepth 100000 in
theorem lk142_33 : xAt kT142 33 (.iload_n 2) 34 := ⟨1, rfl, Or.inr rfl, rfl⟩
set_option maxRecDepth 100000 in
theorem lk142_34 : xAt kT142 34 (.invokestatic 140) 37 := ⟨3, rfl, Or.inr rfl, rfl⟩
set_option maxRecDepth 100000 in
theorem lk142_37 : xAt kT142 37 (.if_icmp .le 26) 40 := ⟨3, rfl, Or.inr rfl, rfl⟩
set_option maxRecDepth 100000 in
theorem lk142_40 : xAt kT142 40 (.iload_n 3) 41 := ⟨1, rfl, Or.inr rfl, rfl⟩
set_option maxRecDepth 100000 in
theorem lk142_41 : xAt kT142 41 (.ifCond .eq 18) 44 := ⟨3, rfl, Or.inr rfl, rfl⟩
set_option maxRecDepth 100000 in
theorem lk142_44 : xAt kT142 44 (.iconst 2) 45 := ⟨1, rfl, Or.inr rfl, rfl⟩
set_option maxRecDepth 100000 in
theorem lk142_45 : xAt kT142 45 (.iload_n 1) 46 := ⟨1, rfl, Or.inr rfl, rfl⟩
set_option maxRecDepth 100000 in
theorem lk142_46 : xAt kT142 46 (.iload_n 3) 47 := ⟨1, rfl, Or.inr rfl, rfl⟩
set_option maxRecDepth 100000 in
theorem lk142_47 : xAt kT142 47 (.iand) 48 := ⟨1, rfl, Or.inr rfl, rfl⟩
set_option maxRecDepth 100000 in
theorem lk142_48 : xAt kT142 48 (.invokestatic 140) 51 := ⟨3, rfl, Or.inr rfl, rfl⟩
set_option maxRecDepth 100000 in
theorem lk142_51 : xAt kT142 51 (.imul) 52 := ⟨1, rfl, Or.inr rfl, rfl⟩
set_option maxRecDepth 100000 in
theorem lk142_52 : xAt kT142 52 (.iload_n 3) 53 := ⟨1, rfl, Or.inr rfl, rfl⟩
set_option maxRecDepth 100000 in
theorem lk142_53 : xAt kT142 53 (.invokestatic 140) 56 := ⟨3, rfl, Or.inr rfl, rfl⟩
set_option maxRecDepth 100000 in
theorem lk142_56 : xAt kT142 56 (.if_icmp .le 7) 59 := ⟨3, rfl, Or.inr rfl, rfl⟩
set_option maxRecDepth 100000 in
theorem lk142_59 : xAt kT142 59 (.iconst 1) 60 := ⟨1, rfl, Or.inr rfl, rfl⟩
set_option maxRecDepth 100000 in
theorem lk142_60 : xAt kT142 60 (.goto 4) 63 := ⟨3, rfl, Or.inr rfl, rfl⟩
set_option maxRecDepth 100000 in
theorem lk142_63 : xAt kT142 63 (.iconst 0) 64 := ⟨1, rfl, Or.inr rfl, rfl⟩
set_option maxRecDepth 100000 in
theorem lk142_64 : xAt kT142 64 (.ireturn) 65 := ⟨1, rfl, Or.inr rfl, rfl⟩
set_option maxRecDepth 100000 in
theorem lk143_0 : xAt kT143 0 (.aload_n 0) 1 := ⟨1, rfl, Or.inr rfl, rfl⟩
set_option maxRecDepth 100000 in
theorem lk143_1 : xAt kT143 1 (.getfield 56) 4 := ⟨3, rfl, Or.inr rfl, rfl⟩
set_option maxRecDepth 100000 in
theorem lk143_4 : xAt kT143 4 (.arraylength) 5 := ⟨1, rfl, Or.inr rfl, rfl⟩
set_option maxRecDepth 100000 in
theorem lk143_5 : xAt kT143 5 (.aload_n 0) 6 := ⟨1, rfl, Or.inr rfl, rfl⟩
set_option maxRecDepth 100000 in
theorem lk143_6 : xAt kT143 6 (.getfield 238) 9 := ⟨3, rfl, Or.inr rfl, rfl⟩
set_option maxRecDepth 100000 in
theorem lk143_9 : xAt kT143 9 (.aload_n 1) 10 := ⟨1, rfl, Or.inr rfl, rfl⟩
set_option maxRecDepth 100000 in
theorem lk143_10 : xAt kT143 10 (.getfield 346) 13 := ⟨3, rfl, Or.inr rfl, rfl⟩
set_option maxRecDepth 100000 in
theorem lk143_13 : xAt kT143 13 (.iadd) 14 := ⟨1, rfl, Or.inr rfl, rfl⟩
set_option maxRecDepth 100000 in
theorem lk143_14 : xAt kT143 14 (.if_icmp .ge 25) 17 := ⟨3, rfl, Or.inr rfl, rfl⟩
set_option maxRecDepth 100000 in
theorem lk143_17 : xAt kT143 17 (.aload_n 0) 18 := ⟨1, rfl, Or.inr rfl, rfl⟩
set_option maxRecDepth 100000 in
theorem lk143_18 : xAt kT143 18 (.aload_n 0) 19 := ⟨1, rfl, Or.inr rfl, rfl⟩
set_option maxRecDepth 100000 in
theorem lk143_19 : xAt kT143 19 (.getfield 56) 22 := ⟨3, rfl, Or.inr rfl, rfl⟩
set_option maxRecDepth 100000 in
theorem lk143_22 : xAt kT143 22 (.iconst 2) 23 := ⟨1, rfl, Or.inr rfl, rfl⟩
set_option maxRecDepth 100000 in
theorem lk143_23 : xAt kT143 23 (.aload_n 0) 24 := ⟨1, rfl, Or.inr rfl, rfl⟩
set_option maxRecDepth 100000 in
theorem lk143_24 : xAt kT143 24 (.getfield 238) 27 := ⟨3, rfl, Or.inr rfl, rfl⟩
set_option maxRecDepth 100000 in
theorem lk143_27 : xAt kT143 27 (.aload_n 1) 28 := ⟨1, rfl, Or.inr rfl, rfl⟩
set_option maxRecDepth 100000 in
theorem lk143_28 : xAt kT143 28 (.getfield 346) 31 := ⟨3, rfl, Or.inr rfl, rfl⟩
set_option maxRecDepth 100000 in
theorem lk143_31 : xAt kT143 31 (.iadd) 32 := ⟨1, rfl, Or.inr rfl, rfl⟩
set_option maxRecDepth 100000 in
theorem lk143_32 : xAt kT143 32 (.imul) 33 := ⟨1, rfl, Or.inr rfl, rfl⟩
set_option maxRecDepth 100000 in
theorem lk143_33 : xAt kT143 33 (.invokestatic 525) 36 := ⟨3, rfl, Or.inr rfl, rfl⟩
set_option maxRecDepth 100000 in
theorem lk143_36 : xAt kT143 36 (.putfield 56) 39 := ⟨3, rfl, Or.inr rfl, rfl⟩
set_option maxRecDepth 100000 in
theorem lk143_39 : xAt kT143 39 (.aload_n 1) 40 := ⟨1, rfl, Or.inr rfl, rfl⟩
set_option maxRecDepth 100000 in
theorem lk143_40 : xAt kT143 40 (.getfield 531) 43 := ⟨3, rfl, Or.inr rfl, rfl⟩
set_option maxRecDepth 100000 in
theorem lk143_43 : xAt kT143 43 (.iconst 0) 44 := ⟨1, rfl, Or.inr rfl, rfl⟩
set_option maxRecDepth 100000 in
theorem lk143_44 : xAt kT143 44 (.aload_n 0) 45 := ⟨1, rfl, Or.inr rfl, rfl⟩
set_option maxRecDepth 100000 in
theorem lk143_45 : xAt kT143 45 (.getfield 56) 48 := ⟨3, rfl, Or.inr rfl, rfl⟩
set_option maxRecDepth 100000 in
theorem lk143_48 : xAt kT143 48 (.aload_n 0) 49 := ⟨1, rfl, Or.inr rfl, rfl⟩
set_option maxRecDepth 100000 in
theorem lk143_49 : xAt kT143 49 (.getfield 238) 52 := ⟨3, rfl, Or.inr rfl, rfl⟩
set_option maxRecDepth 100000 in
theorem lk143_52 : xAt kT143 52 (.aload_n 1) 53 := ⟨1, rfl, Or.inr rfl, rfl⟩
set_option maxRecDepth 100000 in
theorem lk143_53 : xAt kT143 53 (.getfield 346) 56 := ⟨3, rfl, Or.inr rfl, rfl⟩
set_option maxRecDepth 100000 in
theorem lk143_56 : xAt kT143 56 (.invokestatic 410) 59 := ⟨3, rfl, Or.inr rfl, rfl⟩
set_option maxRecDepth 100000 in
theorem lk143_59 : xAt kT143 59 (.aload_n 0) 60 := ⟨1, rfl, Or.inr rfl, rfl⟩
set_option maxRecDepth 100000 in
theorem lk143_60 : xAt kT143 60 (.dup) 61 := ⟨1, rfl, Or.inr rfl, rfl⟩
set_option maxRecDepth 100000 in
theorem lk143_61 : xAt kT143 61 (.getfield 238) 64 := ⟨3, rfl, Or.inr rfl, rfl⟩
set_option maxRecDepth 100000 in
theorem lk143_64 : xAt kT143 64 (.aload_n 1) 65 := ⟨1, rfl, Or.inr rfl, rfl⟩
set_option maxRecDepth 100000 in
theorem lk143_65 : xAt kT143 65 (.getfield 346) 68 := ⟨3, rfl, Or.inr rfl, rfl⟩
set_option maxRecDepth 100000 in
theorem lk143_68 : xAt kT143 68 (.iadd) 69 := ⟨1, rfl, Or.inr rfl, rfl⟩
set_option maxRecDepth 100000 in
theorem lk143_69 : xAt kT143 69 (.putfield 238) 72 := ⟨3, rfl, Or.inr rfl, rfl⟩
set_option maxRecDepth 100000 in
theorem lk143_72 : xAt kT143 72 (.return_) 73 := ⟨1, rfl, Or.inr rfl, rfl⟩
set_option maxRecDepth 100000 in
theorem lk147_0 : xAt kT147 0 (.aload_n 0) 1 := ⟨1, rfl, Or.inr rfl, rfl⟩
set_option maxRecDepth 100000 in
theorem lk147_1 : xAt kT147 1 (.getfield 39) 4 := ⟨3, rfl, Or.inr rfl, rfl⟩
set_option maxRecDepth 100000 in
theorem lk147_4 : xAt kT147 4 (.ifCond .eq 26) 7 := ⟨3, rfl, Or.inr rfl, rfl⟩
set_option maxRecDepth 100000 in
theorem lk147_7 : xAt kT147 7 (.aload_n 0) 8 := ⟨1, rfl, Or.inr rfl, rfl⟩
set_option maxRecDepth 100000 in
theorem lk147_8 : xAt kT147 8 (.getfield 85) 11 := ⟨3, rfl, Or.inr rfl, rfl⟩
set_option maxRecDepth 100000 in
theorem lk147_11 : xAt kT147 11 (.iconst 3) 12 := ⟨1, rfl, Or.inr rfl, rfl⟩
set_option maxRecDepth 100000 in
theorem lk147_12 : xAt kT147 12 (.if_icmp .ne 18) 15 := ⟨3, rfl, Or.inr rfl, rfl⟩
set_option maxRecDepth 100000 in
theorem lk147_15 : xAt kT147 15 (.aload_n 0) 16 := ⟨1, rfl, Or.inr rfl, rfl⟩
set_option maxRecDepth 100000 in
theorem lk147_16 : xAt kT147 16 (.getfield 21) 19 := ⟨3, rfl, Or.inr rfl, rfl⟩
set_option maxRecDepth 100000 in
theorem lk147_19 : xAt kT147 19 (.getfield 112) 22 := ⟨3, rfl, Or.inr rfl, rfl⟩
set_option maxRecDepth 100000 in
theorem lk147_22 : xAt kT147 22 (.iconst (-1)) 23 := ⟨1, rfl, Or.inr rfl, rfl⟩
set_option maxRecDepth 100000 in
theorem lk147_23 : xAt kT147 23 (.if_icmp .ne 7) 26 := ⟨3, rfl, Or.inr rfl, rfl⟩
set_option maxRecDepth 100000 in
theorem lk147_26 : xAt kT147 26 (.iconst 1) 27 := ⟨1, rfl, Or.inr rfl, rfl⟩
set_option maxRecDepth 100000 in
theorem lk147_27 : xAt kT147 27 (.goto 4) 30 := ⟨3, rfl, Or.inr rfl, rfl⟩
set_option maxRecDepth 100000 in
theorem lk147_30 : xAt kT147 30 (.iconst 0) 31 := ⟨1, rfl, Or.inr rfl, rfl⟩
set_option maxRecDepth 100000 in
theorem lk147_31 : xAt kT147 31 (.ireturn) 32 := ⟨1, rfl, Or.inr rfl, rfl⟩
set_option maxRecDepth 100000 in
theorem lk148_0 : xAt kT148 0 (.aload_n 0) 1 := ⟨1, rfl, Or.inr rfl, rfl⟩
set_option maxRecDepth 100000 in
theorem lk148_1 : xAt kT148 1 (.invokevirtual 625) 4 := ⟨3, rfl, Or.inr rfl, rfl⟩
set_option maxRecDepth 100000 in
theorem lk148_4 : xAt kT148 4 (.ifCond .eq 53) 7 := ⟨3, rfl, Or.inr rfl, rfl⟩
set_option maxRecDepth 100000 in
theorem lk148_7 : xAt kT148 7 (.aload_n 0) 8 := ⟨1, rfl, Or.inr rfl, rfl⟩
set_option maxRecDepth 100000 in
theorem lk148_8 : xAt kT148 8 (.getfield 72) 11 := ⟨3, rfl, Or.inr rfl, rfl⟩
set_option maxRecDepth 100000 in
theorem lk148_11 : xAt kT148 11 (.invokevirtual 326) 14 := ⟨3, rfl, Or.inr rfl, rfl⟩
set_option maxRecDepth 100000 in
theorem lk148_14 : xAt kT148 14 (.sipush 200) 17 := ⟨3, rfl, Or.inr rfl, rfl⟩
set_option maxRecDepth 100000 in
theorem lk148_17 : xAt kT148 17 (.if_icmp .ge 40) 20 := ⟨3, rfl, Or.inr rfl, rfl⟩
set_option maxRecDepth 100000 in
theorem lk148_20 : xAt kT148 20 (.aload_n 0) 21 := ⟨1, rfl, Or.inr rfl, rfl⟩
set_option maxRecDepth 100000 in
theorem lk148_21 : xAt kT148 21 (.getfield 72) 24 := ⟨3, rfl, Or.inr rfl, rfl⟩
set_option maxRecDepth 100000 in
theorem lk148_24 : xAt kT148 24 (.getfield 559) 27 := ⟨3, rfl, Or.inr rfl, rfl⟩
set_option maxRecDepth 100000 in
theorem lk148_27 : xAt kT148 27 (.aload_n 0) 28 := ⟨1, rfl, Or.inr rfl, rfl⟩
set_option maxRecDepth 100000 in
theorem lk148_28 : xAt kT148 28 (.getfield 72) 31 := ⟨3, rfl, Or.inr rfl, rfl⟩
set_option maxRecDepth 100000 in
theorem lk148_31 : xAt kT148 31 (.getfield 91) 34 := ⟨3, rfl, Or.inr rfl, rfl⟩
set_option maxRecDepth 100000 in
theorem lk148_34 : xAt kT148 34 (.if_icmp .gt 23) 37 := ⟨3, rfl, Or.inr rfl, rfl⟩
set_option maxRecDepth 100000 in
theorem lk148_37 : xAt kT148 37 (.aload_n 0) 38 := ⟨1, rfl, Or.inr rfl, rfl⟩
set_option maxRecDepth 100000 in
theorem lk148_38 : xAt kT148 38 (.getfield 72) 41 := ⟨3, rfl, Or.inr rfl, rfl⟩
set_option maxRecDepth 100000 in
theorem lk148_41 : xAt kT148 41 (.getfield 106) 44 := ⟨3, rfl, Or.inr rfl, rfl⟩
set_option maxRecDepth 100000 in
theorem lk148_44 : xAt kT148 44 (.bipush 7) 46 := ⟨2, rfl, Or.inr rfl, rfl⟩
set_option maxRecDepth 100000 in
theorem lk148_46 : xAt kT148 46 (.ishr) 47 := ⟨1, rfl, Or.inr rfl, rfl⟩
set_option maxRecDepth 100000 in
theorem lk148_47 : xAt kT148 47 (.bipush 127) 49 := ⟨2, rfl, Or.inr rfl, rfl⟩
set_option maxRecDepth 100000 in
theorem lk148_49 : xAt kT148 49 (.iand) 50 := ⟨1, rfl, Or.inr rfl, rfl⟩
set_option maxRecDepth 100000 in
theorem lk148_50 : xAt kT148 50 (.ifCond .ne 7) 53 := ⟨3, rfl, Or.inr rfl, rfl⟩
set_option maxRecDepth 100000 in
theorem lk148_53 : xAt kT148 53 (.iconst 1) 54 := ⟨1, rfl, Or.inr rfl, rfl⟩
set_option maxRecDepth 100000 in
theorem lk148_54 : xAt kT148 54 (.goto 4) 57 := ⟨3, rfl, Or.inr rfl, rfl⟩
set_option maxRecDepth 100000 in
theorem lk148_57 : xAt kT148 57 (.iconst 0) 58 := ⟨1, rfl, Or.inr rfl, rfl⟩
set_option maxRecDepth 100000 in
theorem lk148_58 : xAt kT148 58 (.ireturn) 59 := ⟨1, rfl, Or.inr rfl, rfl⟩
set_option maxRecDepth 100000 in
theorem lk105_0 : xAt kT105 0 (.aload_n 0) 1 := ⟨1, rfl, Or.inr rfl, rfl⟩
set_option maxRecDepth 100000 in
theorem lk105_1 : xAt kT105 1 (.aload_n 0) 2 := ⟨1, rfl, Or.inr rfl, rfl⟩
set_option maxRecDepth 100000 in
theorem lk105_2 : xAt kT105 2 (.getfield 39) 5 := ⟨3, rfl, Or.inr rfl, rfl⟩
set_option maxRecDepth 100000 in
theorem lk105_5 : xAt kT105 5 (.iconst 1) 6 := ⟨1, rfl, Or.inr rfl, rfl⟩
set_option maxRecDepth 100000 in
theorem lk105_6 : xAt kT105 6 (.iadd) 7 := ⟨1, rfl, Or.inr rfl, rfl⟩
set_option maxRecDepth 100000 in
theorem lk105_7 : xAt kT105 7 (.invokevirtual 45) 10 := ⟨3, rfl, Or.inr rfl, rfl⟩
set_option maxRecDepth 100000 in
theorem lk105_10 : xAt kT105 10 (.aload_n 1) 11 := ⟨1, rfl, Or.inr rfl, rfl⟩
set_option maxRecDepth 100000 in
theorem lk105_11 : xAt kT105 11 (.iload_n 2) 12 := ⟨1, rfl, Or.inr rfl, rfl⟩
set_option maxRecDepth 100000 in
theorem lk105_12 : xAt kT105 12 (.aload_n 0) 13 := ⟨1, rfl, Or.inr rfl, rfl⟩
set_option maxRecDepth 100000 in
theorem lk105_13 : xAt kT105 13 (.getfield 9) 16 := ⟨3, rfl, Or.inr rfl, rfl⟩
set_option maxRecDepth 100000 in
theorem lk105_16 : xAt kT105 16 (.aload_n 0) 17 := ⟨1, rfl, Or.inr rfl, rfl⟩
set_option maxRecDepth 100000 in
theorem lk105_17 : xAt kT105 17 (.getfield 39) 20 := ⟨3, rfl, Or.inr rfl, rfl⟩
set_option maxRecDepth 100000 in
theorem lk105_20 : xAt kT105 20 (.bipush 6) 22 := ⟨2, rfl, Or.inr rfl, rfl⟩
set_option maxRecDepth 100000 in
theorem lk105_22 : xAt kT105 22 (.imul) 23 := ⟨1, rfl, Or.inr rfl, rfl⟩
set_option maxRecDepth 100000 in
theorem lk105_23 : xAt kT105 23 (.bipush 6) 25 := ⟨2, rfl, Or.inr rfl, rfl⟩
set_option maxRecDepth 100000 in
theorem lk105_25 : xAt kT105 25 (.invokestatic 49) 28 := ⟨3, rfl, Or.inr rfl, rfl⟩
set_option maxRecDepth 100000 in
theorem lk105_28 : xAt kT105 28 (.aload_n 0) 29 := ⟨1, rfl, Or.inr rfl, rfl⟩
set_option maxRecDepth 100000 in
theorem lk105_29 : xAt kT105 29 (.dup) 30 := ⟨1, rfl, Or.inr rfl, rfl⟩
set_option maxRecDepth 100000 in
theorem lk105_30 : xAt kT105 30 (.getfield 26) 33 := ⟨3, rfl, Or.inr rfl, rfl⟩
set_option maxRecDepth 100000 in
theorem lk105_33 : xAt kT105 33 (.bipush 25) 35 := ⟨2, rfl, Or.inr rfl, rfl⟩
set_option maxRecDepth 100000 in
theorem lk105_35 : xAt kT105 35 (.aload_n 1) 36 := ⟨1, rfl, Or.inr rfl, rfl⟩
set_option maxRecDepth 100000 in
theorem lk105_36 : xAt kT105 36 (.iload_n 2) 37 := ⟨1, rfl, Or.inr rfl, rfl⟩
set_option maxRecDepth 100000 in
theorem lk105_37 : xAt kT105 37 (.iconst 2) 38 := ⟨1, rfl, Or.inr rfl, rfl⟩
set_option maxRecDepth 100000 in
theorem lk105_38 : xAt kT105 38 (.iadd) 39 := ⟨1, rfl, Or.inr rfl, rfl⟩
set_option maxRecDepth 100000 in
theorem lk105_39 : xAt kT105 39 (.iaload) 40 := ⟨1, rfl, Or.inr rfl, rfl⟩
set_option maxRecDepth 100000 in
theorem lk105_40 : xAt kT105 40 (.iadd) 41 := ⟨1, rfl, Or.inr rfl, rfl⟩
set_option maxRecDepth 100000 in
theorem lk105_41 : xAt kT105 41 (.iadd) 42 := ⟨1, rfl, Or.inr rfl, rfl⟩
set_option maxRecDepth 100000 in
theorem lk105_42 : xAt kT105 42 (.putfield 26) 45 := ⟨3, rfl, Or.inr rfl, rfl⟩
set_option maxRecDepth 100000 in
theorem lk105_45 : xAt kT105 45 (.aload_n 0) 46 := ⟨1, rfl, Or.inr rfl, rfl⟩
set_option maxRecDepth 100000 in
theorem lk105_46 : xAt kT105 46 (.getfield 15) 49 := ⟨3, rfl, Or.inr rfl, rfl⟩
set_option maxRecDepth 100000 in
theorem lk105_49 : xAt kT105 49 (.aload_n 0) 50 := ⟨1, rfl, Or.inr rfl, rfl⟩
set_option maxRecDepth 100000 in
theorem lk105_50 : xAt kT105 50 (.getfield 39) 53 := ⟨3, rfl, Or.inr rfl, rfl⟩
set_option maxRecDepth 100000 in
theorem lk105_53 : xAt kT105 53 (.aload_n 0) 54 := ⟨1, rfl, Or.inr rfl, rfl⟩
set_option maxRecDepth 100000 in
theorem lk105_54 : xAt kT105 54 (.getfield 26) 57 := ⟨3, rfl, Or.inr rfl, rfl⟩
set_option maxRecDepth 100000 in
theorem lk105_57 : xAt kT105 57 (.iastore) 58 := ⟨1, rfl, Or.inr rfl, rfl⟩
set_option maxRecDepth 100000 in
theorem lk105_58 : xAt kT105 58 (.aload_n 0) 59 := ⟨1, rfl, Or.inr rfl, rfl⟩
set_option maxRecDepth 100000 in
theorem lk105_59 : xAt kT105 59 (.dup) 60 := ⟨1, rfl, Or.inr rfl, rfl⟩
set_option maxRecDepth 100000 in
theorem lk105_60 : xAt kT105 60 (.getfield 39) 63 := ⟨3, rfl, Or.inr rfl, rfl⟩
set_option maxRecDepth 100000 in
theorem lk105_63 : xAt kT105 63 (.iconst 1) 64 := ⟨1, rfl, Or.inr rfl, rfl⟩
set_option maxRecDepth 100000 in
theorem lk105_64 : xAt kT105 64 (.iadd) 65 := ⟨1, rfl, Or.inr rfl, rfl⟩
set_option maxRecDepth 100000 in
theorem lk105_65 : xAt kT105 65 (.putfield 39) 68 := ⟨3, rfl, Or.inr rfl, rfl⟩
set_option maxRecDepth 100000 in
theorem lk105_68 : xAt kT105 68 (.return_) 69 := ⟨1, rfl, Or.inr rfl, rfl⟩
set_option maxRecDepth 100000 in
theorem lk32_0 : xAt kT32 0 (.aload_n 0) 1 := ⟨1, rfl, Or.inr rfl, rfl⟩
set_option maxRecDepth 100000 in
theorem lk32_1 : xAt kT32 1 (.getfield 72) 4 := ⟨3, rfl, Or.inr rfl, rfl⟩
set_option maxRecDepth 100000 in
theorem lk32_4 : xAt kT32 4 (.ifCond .eq 28) 7 := ⟨3, rfl, Or.inr rfl, rfl⟩
set_option maxRecDepth 100000 in
theorem lk32_7 : xAt kT32 7 (.aload_n 0) 8 := ⟨1, rfl, Or.inr rfl, rfl⟩
set_option maxRecDepth 100000 in
theorem lk32_8 : xAt kT32 8 (.getfield 11) 11 := ⟨3, rfl, Or.inr rfl, rfl⟩
set_option maxRecDepth 100000 in
theorem lk32_11 : xAt kT32 11 (.aload_n 0) 12 := ⟨1, rfl, Or.inr rfl, rfl⟩
set_option maxRecDepth 100000 in
theorem lk32_12 : xAt kT32 12 (.getfield 27) 15 := ⟨3, rfl, Or.inr rfl, rfl⟩
set_option maxRecDepth 100000 in
theorem lk32_15 : xAt kT32 15 (.aload_n 0) 16 := ⟨1, rfl, Or.inr rfl, rfl⟩
set_option maxRecDepth 100000 in
theorem lk32_16 : xAt kT32 16 (.getfield 72) 19 := ⟨3, rfl, Or.inr rfl, rfl⟩
set_option maxRecDepth 100000 in
theorem lk32_19 : xAt kT32 19 (.iconst 1) 20 := ⟨1, rfl, Or.inr rfl, rfl⟩
set_option maxRecDepth 100000 in
theorem lk32_20 : xAt kT32 20 (.isub) 21 := ⟨1, rfl, Or.inr rfl, rfl⟩
set_option maxRecDepth 100000 in
theorem lk32_21 : xAt kT32 21 (.iaload) 22 := ⟨1, rfl, Or.inr rfl, rfl⟩
set_option maxRecDepth 100000 in
theorem lk32_22 : xAt kT32 22 (.aaload) 23 := ⟨1, rfl, Or.inr rfl, rfl⟩
set_option maxRecDepth 100000 in
theorem lk32_23 : xAt kT32 23 (.getfield 38) 26 := ⟨3, rfl, Or.inr rfl, rfl⟩
set_option maxRecDepth 100000 in
theorem lk32_26 : xAt kT32 26 (.sipush 8000) 29 := ⟨3, rfl, Or.inr rfl, rfl⟩
set_option maxRecDepth 100000 in
theorem lk32_29 : xAt kT32 29 (.if_icmp .le 10) 32 := ⟨3, rfl, Or.inr rfl, rfl⟩
set_option maxRecDepth 100000 in
theorem lk32_32 : xAt kT32 32 (.aload_n 0) 33 := ⟨1, rfl, Or.inr rfl, rfl⟩
set_option maxRecDepth 100000 in
theorem lk32_33 : xAt kT32 33 (.iload_n 3) 34 := ⟨1, rfl, Or.inr rfl, rfl⟩
set_option maxRecDepth 100000 in
theorem lk32_34 : xAt kT32 34 (.iload 4) 36 := ⟨2, rfl, Or.inr rfl, rfl⟩
set_option maxRecDepth 100000 in
theorem lk32_36 : xAt kT32 36 (.invokevirtual 75) 39 := ⟨3, rfl, Or.inr rfl, rfl⟩
set_option maxRecDepth 100000 in
theorem lk32_39 : xAt kT32 39 (.aload_n 0) 40 := ⟨1, rfl, Or.inr rfl, rfl⟩
set_option maxRecDepth 100000 in
theorem lk32_40 : xAt kT32 40 (.getfield 72) 43 := ⟨3, rfl, Or.inr rfl, rfl⟩
set_option maxRecDepth 100000 in
theorem lk32_43 : xAt kT32 43 (.ifCond .le 24) 46 := ⟨3, rfl, Or.inr rfl, rfl⟩
set_option maxRecDepth 100000 in
theorem lk32_46 : xAt kT32 46 (.aload_n 0) 47 := ⟨1, rfl, Or.inr rfl, rfl⟩
set_option maxRecDepth 100000 in
theorem lk32_47 : xAt kT32 47 (.getfield 11) 50 := ⟨3, rfl, Or.inr rfl, rfl⟩
set_option maxRecDepth 100000 in
theorem lk32_50 : xAt kT32 50 (.aload_n 0) 51 := ⟨1, rfl, Or.inr rfl, rfl⟩
set_option maxRecDepth 100000 in
theorem lk32_51 : xAt kT32 51 (.getfield 27) 54 := ⟨3, rfl, Or.inr rfl, rfl⟩
set_option maxRecDepth 100000 in
theorem lk32_54 : xAt kT32 54 (.aload_n 0) 55 := ⟨1, rfl, Or.inr rfl, rfl⟩
set_option maxRecDepth 100000 in
theorem lk32_55 : xAt kT32 55 (.getfield 72) 58 := ⟨3, rfl, Or.inr rfl, rfl⟩
set_option maxRecDepth 100000 in
theorem lk32_58 : xAt kT32 58 (.iconst 1) 59 := ⟨1, rfl, Or.inr rfl, rfl⟩
set_option maxRecDepth 100000 in
theorem lk32_59 : xAt kT32 59 (.isub) 60 := ⟨1, rfl, Or.inr rfl, rfl⟩
set_option maxRecDepth 100000 in
theorem lk32_60 : xAt kT32 60 (.iaload) 61 := ⟨1, rfl, Or.inr rfl, rfl⟩
set_option maxRecDepth 100000 in
theorem lk32_61 : xAt kT32 61 (.aaload) 62 := ⟨1, rfl, Or.inr rfl, rfl⟩
set_option maxRecDepth 100000 in
theorem lk32_62 : xAt kT32 62 (.aload_n 1) 63 := ⟨1, rfl, Or.inr rfl, rfl⟩
set_option maxRecDepth 100000 in
theorem lk32_63 : xAt kT32 63 (.iload_n 2) 64 := ⟨1, rfl, Or.inr rfl, rfl⟩
set_option maxRecDepth 100000 in
theorem lk32_64 : xAt kT32 64 (.invokevirtual 79) 67 := ⟨3, rfl, Or.inr rfl, rfl⟩
set_option maxRecDepth 100000 in
theorem lk32_67 : xAt kT32 67 (.return_) 68 := ⟨1, rfl, Or.inr rfl, rfl⟩
set_option maxRecDepth 100000 in
theorem lk122_0 : xAt kT122 0 (.aload_n 0) 1 := ⟨1, rfl, Or.inr rfl, rfl⟩
set_option maxRecDepth 100000 in
theorem lk122_1 : xAt kT122 1 (.getfield 72) 4 := ⟨3, rfl, Or.inr rfl, rfl⟩
set_option maxRecDepth 100000 in
theorem lk122_4 : xAt kT122 4 (.invokevirtual 326) 7 := ⟨3, rfl, Or.inr rfl, rfl⟩
set_option maxRecDepth 100000 in
theorem lk122_7 : xAt kT122 7 (.sipush 300) 10 := ⟨3, rfl, Or.inr rfl, rfl⟩
set_option maxRecDepth 100000 in
theorem lk122_10 : xAt kT122 10 (.if_icmp .ge 48) 13 := ⟨3, rfl, Or.inr rfl, rfl⟩
set_option maxRecDepth 100000 in
theorem lk122_13 : xAt kT122 13 (.aload_n 0) 14 := ⟨1, rfl, Or.inr rfl, rfl⟩
set_option maxRecDepth 100000 in
theorem lk122_14 : xAt kT122 14 (.getfield 12) 17 := ⟨3, rfl, Or.inr rfl, rfl⟩
set_option maxRecDepth 100000 in
theorem lk122_17 : xAt kT122 17 (.aload_n 1) 18 := ⟨1, rfl, Or.inr rfl, rfl⟩
set_option maxRecDepth 100000 in
theorem lk122_18 : xAt kT122 18 (.iload_n 2) 19 := ⟨1, rfl, Or.inr rfl, rfl⟩
set_option maxRecDepth 100000 in
theorem lk122_19 : xAt kT122 19 (.aload_n 0) 20 := ⟨1, rfl, Or.inr rfl, rfl⟩
set_option maxRecDepth 100000 in
theorem lk122_20 : xAt kT122 20 (.getfield 72) 23 := ⟨3, rfl, Or.inr rfl, rfl⟩
set_option maxRecDepth 100000 in
theorem lk122_23 : xAt kT122 23 (.getfield 103) 26 := ⟨3, rfl, Or.inr rfl, rfl⟩
set_option maxRecDepth 100000 in
theorem lk122_26 : xAt kT122 26 (.iconst 1) 27 := ⟨1, rfl, Or.inr rfl, rfl⟩
set_option maxRecDepth 100000 in
theorem lk122_27 : xAt kT122 27 (.iadd) 28 := ⟨1, rfl, Or.inr rfl, rfl⟩
set_option maxRecDepth 100000 in
theorem lk122_28 : xAt kT122 28 (.aload_n 0) 29 := ⟨1, rfl, Or.inr rfl, rfl⟩
set_option maxRecDepth 100000 in
theorem lk122_29 : xAt kT122 29 (.getfield 72) 32 := ⟨3, rfl, Or.inr rfl, rfl⟩
set_option maxRecDepth 100000 in
theorem lk122_32 : xAt kT122 32 (.aload_n 0) 33 := ⟨1, rfl, Or.inr rfl, rfl⟩
set_option maxRecDepth 100000 in
theorem lk122_33 : xAt kT122 33 (.getfield 72) 36 := ⟨3, rfl, Or.inr rfl, rfl⟩
set_option maxRecDepth 100000 in
theorem lk122_36 : xAt kT122 36 (.getfield 103) 39 := ⟨3, rfl, Or.inr rfl, rfl⟩
set_option maxRecDepth 100000 in
theorem lk122_39 : xAt kT122 39 (.invokevirtual 311) 42 := ⟨3, rfl, Or.inr rfl, rfl⟩
set_option maxRecDepth 100000 in
theorem lk122_42 : xAt kT122 42 (.invokevirtual 328) 45 := ⟨3, rfl, Or.inr rfl, rfl⟩
set_option maxRecDepth 100000 in
theorem lk122_45 : xAt kT122 45 (.aload_n 0) 46 := ⟨1, rfl, Or.inr rfl, rfl⟩
set_option maxRecDepth 100000 in
theorem lk122_46 : xAt kT122 46 (.getfield 72) 49 := ⟨3, rfl, Or.inr rfl, rfl⟩
set_option maxRecDepth 100000 in
theorem lk122_49 : xAt kT122 49 (.aload_n 1) 50 := ⟨1, rfl, Or.inr rfl, rfl⟩
set_option maxRecDepth 100000 in
theorem lk122_50 : xAt kT122 50 (.iload_n 2) 51 := ⟨1, rfl, Or.inr rfl, rfl⟩
set_option maxRecDepth 100000 in
theorem lk122_51 : xAt kT122 51 (.invokevirtual 305) 54 := ⟨3, rfl, Or.inr rfl, rfl⟩
set_option maxRecDepth 100000 in
theorem lk122_54 : xAt kT122 54 (.aload_n 0) 55 := ⟨1, rfl, Or.inr rfl, rfl⟩
set_option maxRecDepth 100000 in
theorem lk122_55 : xAt kT122 55 (.invokevirtual 323) 58 := ⟨3, rfl, Or.inr rfl, rfl⟩
set_option maxRecDepth 100000 in
theorem lk122_58 : xAt kT122 58 (.return_) 59 := ⟨1, rfl, Or.inr rfl, rfl⟩
set_option maxRecDepth 100000 in
theorem lk166_0 : xAt kT166 0 (.iload_n 1) 1 := ⟨1, rfl, Or.inr rfl, rfl⟩
set_option maxRecDepth 100000 in
theorem lk166_1 : xAt kT166 1 (.aload_n 0) 2 := ⟨1, rfl, Or.inr rfl, rfl⟩
set_option maxRecDepth 100000 in
theorem lk166_2 : xAt kT166 2 (.getfield 88) 5 := ⟨3, rfl, Or.inr rfl, rfl⟩
set_option maxRecDepth 100000 in
theorem lk166_5 : xAt kT166 5 (.if_icmp .le 9) 8 := ⟨3, rfl, Or.inr rfl, rfl⟩
set_option maxRecDepth 100000 in
theorem lk166_8 : xAt kT166 8 (.aload_n 0) 9 := ⟨1, rfl, Or.inr rfl, rfl⟩
set_option maxRecDepth 100000 in
theorem lk166_9 : xAt kT166 9 (.iload_n 1) 10 := ⟨1, rfl, Or.inr rfl, rfl⟩
set_option maxRecDepth 100000 in
theorem lk166_10 : xAt kT166 10 (.iconst (-1)) 11 := ⟨1, rfl, Or.inr rfl, rfl⟩
set_option maxRecDepth 100000 in
theorem lk166_11 : xAt kT166 11 (.invokevirtual 425) 14 := ⟨3, rfl, Or.inr rfl, rfl⟩
set_option maxRecDepth 100000 in
theorem lk166_14 : xAt kT166 14 (.aload_n 0) 15 := ⟨1, rfl, Or.inr rfl, rfl⟩
set_option maxRecDepth 100000 in
theorem lk166_15 : xAt kT166 15 (.getfield 85) 18 := ⟨3, rfl, Or.inr rfl, rfl⟩
set_option maxRecDepth 100000 in
theorem lk166_18 : xAt kT166 18 (.iconst 3) 19 := ⟨1, rfl, Or.inr rfl, rfl⟩
set_option maxRecDepth 100000 in
theorem lk166_19 : xAt kT166 19 (.if_icmp .ne 29) 22 := ⟨3, rfl, Or.inr rfl, rfl⟩
set_option maxRecDepth 100000 in
theorem lk166_22 : xAt kT166 22 (.aload_n 0) 23 := ⟨1, rfl, Or.inr rfl, rfl⟩
set_option maxRecDepth 100000 in
theorem lk166_23 : xAt kT166 23 (.getfield 63) 26 := ⟨3, rfl, Or.inr rfl, rfl⟩
set_option maxRecDepth 100000 in
theorem lk166_26 : xAt kT166 26 (.aload_n 0) 27 := ⟨1, rfl, Or.inr rfl, rfl⟩
set_option maxRecDepth 100000 in
theorem lk166_27 : xAt kT166 27 (.getfield 60) 30 := ⟨3, rfl, Or.inr rfl, rfl⟩
set_option maxRecDepth 100000 in
theorem lk166_30 : xAt kT166 30 (.invokevirtual 251) 33 := ⟨3, rfl, Or.inr rfl, rfl⟩
set_option maxRecDepth 100000 in
theorem lk166_33 : xAt kT166 33 (.aload_n 0) 34 := ⟨1, rfl, Or.inr rfl, rfl⟩
set_option maxRecDepth 100000 in
theorem lk166_34 : xAt kT166 34 (.getfield 28) 37 := ⟨3, rfl, Or.inr rfl, rfl⟩
set_option maxRecDepth 100000 in
theorem lk166_37 : xAt kT166 37 (.invokevirtual 248) 40 := ⟨3, rfl, Or.inr rfl, rfl⟩
set_option maxRecDepth 100000 in
theorem lk166_40 : xAt kT166 40 (.aload_n 0) 41 := ⟨1, rfl, Or.inr rfl, rfl⟩
set_option maxRecDepth 100000 in
theorem lk166_41 : xAt kT166 41 (.getfield 21) 44 := ⟨3, rfl, Or.inr rfl, rfl⟩
set_option maxRecDepth 100000 in
theorem lk166_44 : xAt kT166 44 (.iconst (-1)) 45 := ⟨1, rfl, Or.inr rfl, rfl⟩
set_option maxRecDepth 100000 in
theorem lk166_45 : xAt kT166 45 (.putfield 112) 48 := ⟨3, rfl, Or.inr rfl, rfl⟩
set_option maxRecDepth 100000 in
theorem lk166_48 : xAt kT166 48 (.aload_n 0) 49 := ⟨1, rfl, Or.inr rfl, rfl⟩
set_option maxRecDepth 100000 in
theorem lk166_49 : xAt kT166 49 (.iload_n 2) 50 := ⟨1, rfl, Or.inr rfl, rfl⟩
set_option maxRecDepth 100000 in
theorem lk166_50 : xAt kT166 50 (.invokevirtual 428) 53 := ⟨3, rfl, Or.inr rfl, rfl⟩
set_option maxRecDepth 100000 in
theorem lk166_53 : xAt kT166 53 (.return_) 54 := ⟨1, rfl, Or.inr rfl, rfl⟩
set_option maxRecDepth 100000 in
theorem lk149_0 : xAt kT149 0 (.aload_n 0) 1 := ⟨1, rfl, Or.inr rfl, rfl⟩
set_option maxRecDepth 100000 in
theorem lk149_1 : xAt kT149 1 (.getfield 72) 4 := ⟨3, rfl, Or.inr rfl, rfl⟩
set_option maxRecDepth 100000 in
theorem lk149_4 : xAt kT149 4 (.getfield 559) 7 := ⟨3, rfl, Or.inr rfl, rfl⟩
set_option maxRecDepth 100000 in
theorem lk149_7 : xAt kT149 7 (.aload_n 0) 8 := ⟨1, rfl, Or.inr rfl, rfl⟩
set_option maxRecDepth 100000 in
theorem lk149_8 : xAt kT149 8 (.getfield 72) 11 := ⟨3, rfl, Or.inr rfl, rfl⟩
set_option maxRecDepth 100000 in
theorem lk149_11 : xAt kT149 11 (.getfield 91) 14 := ⟨3, rfl, Or.inr rfl, rfl⟩
set_option maxRecDepth 100000 in
theorem lk149_14 : xAt kT149 14 (.if_icmp .le 4) 17 := ⟨3, rfl, Or.inr rfl, rfl⟩
set_option maxRecDepth 100000 in
theorem lk149_17 : xAt kT149 17 (.return_) 18 := ⟨1, rfl, Or.inr rfl, rfl⟩
set_option maxRecDepth 100000 in
theorem lk149_18 : xAt kT149 18 (.aload_n 0) 19 := ⟨1, rfl, Or.inr rfl, rfl⟩
set_option maxRecDepth 100000 in
theorem lk149_19 : xAt kT149 19 (.getfield 72) 22 := ⟨3, rfl, Or.inr rfl, rfl⟩
set_option maxRecDepth 100000 in
theorem lk149_22 : xAt kT149 22 (.getfield 106) 25 := ⟨3, rfl, Or.inr rfl, rfl⟩
set_option maxRecDepth 100000 in
theorem lk149_25 : xAt kT149 25 (.bipush 7) 27 := ⟨2, rfl, Or.inr rfl, rfl⟩
set_option maxRecDepth 100000 in
theorem lk149_27 : xAt kT149 27 (.ishr) 28 := ⟨1, rfl, Or.inr rfl, rfl⟩
set_option maxRecDepth 100000 in
theorem lk149_28 : xAt kT149 28 (.bipush 127) 30 := ⟨2, rfl, Or.inr rfl, rfl⟩
set_option maxRecDepth 100000 in
theorem lk149_30 : xAt kT149 30 (.iand) 31 := ⟨1, rfl, Or.inr rfl, rfl⟩
set_option maxRecDepth 100000 in
theorem lk149_31 : xAt kT149 31 (.istore_n 1) 32 := ⟨1, rfl, Or.inr rfl, rfl⟩
set_option maxRecDepth 100000 in
theorem lk149_32 : xAt kT149 32 (.iload_n 1) 33 := ⟨1, rfl, Or.inr rfl, rfl⟩
set_option maxRecDepth 100000 in
theorem lk149_33 : xAt kT149 33 (.ifCond .eq 65) 36 := ⟨3, rfl, Or.inr rfl, rfl⟩
set_option maxRecDepth 100000 in
theorem lk149_36 : xAt kT149 36 (.aload_n 0) 37 := ⟨1, rfl, Or.inr rfl, rfl⟩
set_option maxRecDepth 100000 in
theorem lk149_37 : xAt kT149 37 (.getfield 72) 40 := ⟨3, rfl, Or.inr rfl, rfl⟩
set_option maxRecDepth 100000 in
theorem lk149_40 : xAt kT149 40 (.invokevirtual 326) 43 := ⟨3, rfl, Or.inr rfl, rfl⟩
set_option maxRecDepth 100000 in
theorem lk149_43 : xAt kT149 43 (.sipush 300) 46 := ⟨3, rfl, Or.inr rfl, rfl⟩
set_option maxRecDepth 100000 in
theorem lk149_46 : xAt kT149 46 (.if_icmp .ge 78) 49 := ⟨3, rfl, Or.inr rfl, rfl⟩
set_option maxRecDepth 100000 in
theorem lk149_49 : xAt kT149 49 (.aload_n 0) 50 := ⟨1, rfl, Or.inr rfl, rfl⟩
set_option maxRecDepth 100000 in
theorem lk149_50 : xAt kT149 50 (.aload_n 0) 51 := ⟨1, rfl, Or.inr rfl, rfl⟩
set_option maxRecDepth 100000 in
theorem lk149_51 : xAt kT149 51 (.getfield 72) 54 := ⟨3, rfl, Or.inr rfl, rfl⟩
set_option maxRecDepth 100000 in
theorem lk149_54 : xAt kT149 54 (.aload_n 0) 55 := ⟨1, rfl, Or.inr rfl, rfl⟩
set_option maxRecDepth 100000 in
theorem lk149_55 : xAt kT149 55 (.getfield 88) 58 := ⟨3, rfl, Or.inr rfl, rfl⟩
set_option maxRecDepth 100000 in
theorem lk149_58 : xAt kT149 58 (.iconst 1) 59 := ⟨1, rfl, Or.inr rfl, rfl⟩
set_option maxRecDepth 100000 in
theorem lk149_59 : xAt kT149 59 (.iconst 4) 60 := ⟨1, rfl, Or.inr rfl, rfl⟩
set_option maxRecDepth 100000 in
theorem lk149_60 : xAt kT149 60 (.iload_n 1) 61 := ⟨1, rfl, Or.inr rfl, rfl⟩
set_option maxRecDepth 100000 in
theorem lk149_61 : xAt kT149 61 (.aload_n 0) 62 := ⟨1, rfl, Or.inr rfl, rfl⟩
set_option maxRecDepth 100000 in
theorem lk149_62 : xAt kT149 62 (.getfield 72) 65 := ⟨3, rfl, Or.inr rfl, rfl⟩
set_option maxRecDepth 100000 in
theorem lk149_65 : xAt kT149 65 (.getfield 106) 68 := ⟨3, rfl, Or.inr rfl, rfl⟩
set_option maxRecDepth 100000 in
theorem lk149_68 : xAt kT149 68 (.bipush 14) 70 := ⟨2, rfl, Or.inr rfl, rfl⟩
set_option maxRecDepth 100000 in
theorem lk149_70 : xAt kT149 70 (.ishr) 71 := ⟨1, rfl, Or.inr rfl, rfl⟩
set_option maxRecDepth 100000 in
theorem lk149_71 : xAt kT149 71 (.bipush 14) 73 := ⟨2, rfl, Or.inr rfl, rfl⟩
set_option maxRecDepth 100000 in
theorem lk149_73 : xAt kT149 73 (.ishl) 74 := ⟨1, rfl, Or.inr rfl, rfl⟩
set_option maxRecDepth 100000 in
theorem lk149_74 : xAt kT149 74 (.ior) 75 := ⟨1, rfl, Or.inr rfl, rfl⟩
set_option maxRecDepth 100000 in
theorem lk149_75 : xAt kT149 75 (.iconst 0) 76 := ⟨1, rfl, Or.inr rfl, rfl⟩
set_option maxRecDepth 100000 in
theorem lk149_76 : xAt kT149 76 (.iconst (-1)) 77 := ⟨1, rfl, Or.inr rfl, rfl⟩
set_option maxRecDepth 100000 in
theorem lk149_77 : xAt kT149 77 (.invokevirtual 447) 80 := ⟨3, rfl, Or.inr rfl, rfl⟩
set_option maxRecDepth 100000 in
theorem lk149_80 : xAt kT149 80 (.iconst 0) 81 := ⟨1, rfl, Or.inr rfl, rfl⟩
set_option maxRecDepth 100000 in
theorem lk149_81 : xAt kT149 81 (.invokevirtual 451) 84 := ⟨3, rfl, Or.inr rfl, rfl⟩
set_option maxRecDepth 100000 in
theorem lk149_84 : xAt kT149 84 (.aload_n 0) 85 := ⟨1, rfl, Or.inr rfl, rfl⟩
set_option maxRecDepth 100000 in
theorem lk149_85 : xAt kT149 85 (.dup) 86 := ⟨1, rfl, Or.inr rfl, rfl⟩
set_option maxRecDepth 100000 in
theorem lk149_86 : xAt kT149 86 (.getfield 146) 89 := ⟨3, rfl, Or.inr rfl, rfl⟩
set_option maxRecDepth 100000 in
theorem lk149_89 : xAt kT149 89 (.bipush 64) 91 := ⟨2, rfl, Or.inr rfl, rfl⟩
set_option maxRecDepth 100000 in
theorem lk149_91 : xAt kT149 91 (.ior) 92 := ⟨1, rfl, Or.inr rfl, rfl⟩
set_option maxRecDepth 100000 in
theorem lk149_92 : xAt kT149 92 (.putfield 146) 95 := ⟨3, rfl, Or.inr rfl, rfl⟩
set_option maxRecDepth 100000 in
theorem lk149_95 : xAt kT149 95 (.goto 29) 98 := ⟨3, rfl, Or.inr rfl, rfl⟩
set_option maxRecDepth 100000 in
theorem lk149_98 : xAt kT149 98 (.aload_n 0) 99 := ⟨1, rfl, Or.inr rfl, rfl⟩
set_option maxRecDepth 100000 in
theorem lk149_99 : xAt kT149 99 (.getfield 72) 102 := ⟨3, rfl, Or.inr rfl, rfl⟩
set_option maxRecDepth 100000 in
theorem lk149_102 : xAt kT149 102 (.getfield 106) 105 := ⟨3, rfl, Or.inr rfl, rfl⟩
set_option maxRecDepth 100000 in
theorem lk149_105 : xAt kT149 105 (.aload_n 0) 106 := ⟨1, rfl, Or.inr rfl, rfl⟩
set_option maxRecDepth 100000 in
theorem lk149_106 : xAt kT149 106 (.getfield 60) 109 := ⟨3, rfl, Or.inr rfl, rfl⟩
set_option maxRecDepth 100000 in
theorem lk149_109 : xAt kT149 109 (.ishr) 110 := ⟨1, rfl, Or.inr rfl, rfl⟩
set_option maxRecDepth 100000 in
theorem lk149_110 : xAt kT149 110 (.iconst 1) 111 := ⟨1, rfl, Or.inr rfl, rfl⟩
set_option maxRecDepth 100000 in
theorem lk149_111 : xAt kT149 111 (.iand) 112 := ⟨1, rfl, Or.inr rfl, rfl⟩
set_option maxRecDepth 100000 in
theorem lk149_112 : xAt kT149 112 (.ifCond .ne 12) 115 := ⟨3, rfl, Or.inr rfl, rfl⟩
set_option maxRecDepth 100000 in
theorem lk149_115 : xAt kT149 115 (.aload_n 0) 116 := ⟨1, rfl, Or.inr rfl, rfl⟩
set_option maxRecDepth 100000 in
theorem lk149_116 : xAt kT149 116 (.aload_n 0) 117 := ⟨1, rfl, Or.inr rfl, rfl⟩
set_option maxRecDepth 100000 in
theorem lk149_117 : xAt kT149 117 (.getfield 88) 120 := ⟨3, rfl, Or.inr rfl, rfl⟩
set_option maxRecDepth 100000 in
theorem lk149_120 : xAt kT149 120 (.iconst (-1)) 121 := ⟨1, rfl, Or.inr rfl, rfl⟩
set_option maxRecDepth 100000 in
theorem lk149_121 : xAt kT149 121 (.invokevirtual 438) 124 := ⟨3, rfl, Or.inr rfl, rfl⟩
set_option maxRecDepth 100000 in
theorem lk149_124 : xAt kT149 124 (.return_) 125 := ⟨1, rfl, Or.inr rfl, rfl⟩
set_option maxRecDepth 100000 in
theorem lk178_0 : xAt kT178 0 (.aload_n 0) 1 := ⟨1, rfl, Or.inr rfl, rfl⟩
set_option maxRecDepth 100000 in
theorem lk178_1 : xAt kT178 1 (.getfield 85) 4 := ⟨3, rfl, Or.inr rfl, rfl⟩
set_option maxRecDepth 100000 in
theorem lk178_4 : xAt kT178 4 (.iconst 3) 5 := ⟨1, rfl, Or.inr rfl, rfl⟩
set_option maxRecDepth 100000 in
theorem lk178_5 : xAt kT178 5 (.if_icmp .ne 14) 8 := ⟨3, rfl, Or.inr rfl, rfl⟩
set_option maxRecDepth 100000 in
theorem lk178_8 : xAt kT178 8 (.aload_n 0) 9 := ⟨1, rfl, Or.inr rfl, rfl⟩
set_option maxRecDepth 100000 in
theorem lk178_9 : xAt kT178 9 (.getfield 21) 12 := ⟨3, rfl, Or.inr rfl, rfl⟩
set_option maxRecDepth 100000 in
theorem lk178_12 : xAt kT178 12 (.getfield 112) 15 := ⟨3, rfl, Or.inr rfl, rfl⟩
set_option maxRecDepth 100000 in
theorem lk178_15 : xAt kT178 15 (.iconst (-1)) 16 := ⟨1, rfl, Or.inr rfl, rfl⟩
set_option maxRecDepth 100000 in
theorem lk178_16 : xAt kT178 16 (.if_icmp .eq 42) 19 := ⟨3, rfl, Or.inr rfl, rfl⟩
set_option maxRecDepth 100000 in
theorem lk178_19 : xAt kT178 19 (.aload_n 0) 20 := ⟨1, rfl, Or.inr rfl, rfl⟩
set_option maxRecDepth 100000 in
theorem lk178_20 : xAt kT178 20 (.aload_n 1) 21 := ⟨1, rfl, Or.inr rfl, rfl⟩
set_option maxRecDepth 100000 in
theorem lk178_21 : xAt kT178 21 (.getfield 181) 24 := ⟨3, rfl, Or.inr rfl, rfl⟩
set_option maxRecDepth 100000 in
theorem lk178_24 : xAt kT178 24 (.aload_n 1) 25 := ⟨1, rfl, Or.inr rfl, rfl⟩
set_option maxRecDepth 100000 in
theorem lk178_25 : xAt kT178 25 (.getfield 342) 28 := ⟨3, rfl, Or.inr rfl, rfl⟩
set_option maxRecDepth 100000 in
theorem lk178_28 : xAt kT178 28 (.iconst 1) 29 := ⟨1, rfl, Or.inr rfl, rfl⟩
set_option maxRecDepth 100000 in
theorem lk178_29 : xAt kT178 29 (.aload_n 0) 30 := ⟨1, rfl, Or.inr rfl, rfl⟩
set_option maxRecDepth 100000 in
theorem lk178_30 : xAt kT178 30 (.getfield 85) 33 := ⟨3, rfl, Or.inr rfl, rfl⟩
set_option maxRecDepth 100000 in
theorem lk178_33 : xAt kT178 33 (.iconst 3) 34 := ⟨1, rfl, Or.inr rfl, rfl⟩
set_option maxRecDepth 100000 in
theorem lk178_34 : xAt kT178 34 (.if_icmp .ne 13) 37 := ⟨3, rfl, Or.inr rfl, rfl⟩
set_option maxRecDepth 100000 in
theorem lk178_37 : xAt kT178 37 (.aload_n 0) 38 := ⟨1, rfl, Or.inr rfl, rfl⟩
set_option maxRecDepth 100000 in
theorem lk178_38 : xAt kT178 38 (.getfield 21) 41 := ⟨3, rfl, Or.inr rfl, rfl⟩
set_option maxRecDepth 100000 in
theorem lk178_41 : xAt kT178 41 (.getfield 112) 44 := ⟨3, rfl, Or.inr rfl, rfl⟩
set_option maxRecDepth 100000 in
theorem lk178_44 : xAt kT178 44 (.goto 7) 47 := ⟨3, rfl, Or.inr rfl, rfl⟩
set_option maxRecDepth 100000 in
theorem lk178_47 : xAt kT178 47 (.aload_n 0) 48 := ⟨1, rfl, Or.inr rfl, rfl⟩
set_option maxRecDepth 100000 in
theorem lk178_48 : xAt kT178 48 (.getfield 47) 51 := ⟨3, rfl, Or.inr rfl, rfl⟩
set_option maxRecDepth 100000 in
theorem lk178_51 : xAt kT178 51 (.iconst 0) 52 := ⟨1, rfl, Or.inr rfl, rfl⟩
set_option maxRecDepth 100000 in
theorem lk178_52 : xAt kT178 52 (.invokevirtual 542) 55 := ⟨3, rfl, Or.inr rfl, rfl⟩
set_option maxRecDepth 100000 in
theorem lk178_55 : xAt kT178 55 (.goto 170) 58 := ⟨3, rfl, Or.inr rfl, rfl⟩
set_option maxRecDepth 100000 in
theorem lk178_58 : xAt kT178 58 (.aload_n 1) 59 := ⟨1, rfl, Or.inr rfl, rfl⟩
set_option maxRecDepth 100000 in
theorem lk178_59 : xAt kT178 59 (.getfield 343) 62 := ⟨3, rfl, Or.inr rfl, rfl⟩
set_option maxRecDepth 100000 in
theorem lk178_62 : xAt kT178 62 (.iconst 2) 63 := ⟨1, rfl, Or.inr rfl, rfl⟩
set_option maxRecDepth 100000 in
theorem lk178_63 : xAt kT178 63 (.if_icmp .ne 67) 66 := ⟨3, rfl, Or.inr rfl, rfl⟩
set_option maxRecDepth 100000 in
theorem lk178_66 : xAt kT178 66 (.aload_n 0) 67 := ⟨1, rfl, Or.inr rfl, rfl⟩
set_option maxRecDepth 100000 in
theorem lk178_67 : xAt kT178 67 (.getfield 72) 70 := ⟨3, rfl, Or.inr rfl, rfl⟩
set_option maxRecDepth 100000 in
theorem lk178_70 : xAt kT178 70 (.aload_n 0) 71 := ⟨1, rfl, Or.inr rfl, rfl⟩
set_option maxRecDepth 100000 in
theorem lk178_71 : xAt kT178 71 (.getfield 72) 74 := ⟨3, rfl, Or.inr rfl, rfl⟩
set_option maxRecDepth 100000 in
theorem lk178_74 : xAt kT178 74 (.getfield 91) 77 := ⟨3, rfl, Or.inr rfl, rfl⟩
set_option maxRecDepth 100000 in
theorem lk178_77 : xAt kT178 77 (.invokevirtual 311) 80 := ⟨3, rfl, Or.inr rfl, rfl⟩
set_option maxRecDepth 100000 in
theorem lk178_80 : xAt kT178 80 (.aload_n 0) 81 := ⟨1, rfl, Or.inr rfl, rfl⟩
set_option maxRecDepth 100000 in
theorem lk178_81 : xAt kT178 81 (.getfield 88) 84 := ⟨3, rfl, Or.inr rfl, rfl⟩
set_option maxRecDepth 100000 in
theorem lk178_84 : xAt kT178 84 (.if_icmp .ne 13) 87 := ⟨3, rfl, Or.inr rfl, rfl⟩
set_option maxRecDepth 100000 in
theorem lk178_87 : xAt kT178 87 (.aload_n 0) 88 := ⟨1, rfl, Or.inr rfl, rfl⟩
set_option maxRecDepth 100000 in
theorem lk178_88 : xAt kT178 88 (.getfield 72) 91 := ⟨3, rfl, Or.inr rfl, rfl⟩
set_option maxRecDepth 100000 in
theorem lk178_91 : xAt kT178 91 (.getfield 91) 94 := ⟨3, rfl, Or.inr rfl, rfl⟩
set_option maxRecDepth 100000 in
theorem lk178_94 : xAt kT178 94 (.goto 10) 97 := ⟨3, rfl, Or.inr rfl, rfl⟩
set_option maxRecDepth 100000 in
theorem lk178_97 : xAt kT178 97 (.aload_n 0) 98 := ⟨1, rfl, Or.inr rfl, rfl⟩
set_option maxRecDepth 100000 in
theorem lk178_98 : xAt kT178 98 (.getfield 21) 101 := ⟨3, rfl, Or.inr rfl, rfl⟩
set_option maxRecDepth 100000 in
theorem lk178_101 : xAt kT178 101 (.getfield 546) 104 := ⟨3, rfl, Or.inr rfl, rfl⟩
set_option maxRecDepth 100000 in
theorem lk178_104 : xAt kT178 104 (.istore_n 2) 105 := ⟨1, rfl, Or.inr rfl, rfl⟩
set_option maxRecDepth 100000 in
theorem lk178_105 : xAt kT178 105 (.aload_n 0) 106 := ⟨1, rfl, Or.inr rfl, rfl⟩
set_option maxRecDepth 100000 in
theorem lk178_106 : xAt kT178 106 (.getfield 28) 109 := ⟨3, rfl, Or.inr rfl, rfl⟩
set_option maxRecDepth 100000 in
theorem lk178_109 : xAt kT178 109 (.aload_n 1) 110 := ⟨1, rfl, Or.inr rfl, rfl⟩
set_option maxRecDepth 100000 in
theorem lk178_110 : xAt kT178 110 (.iload_n 2) 111 := ⟨1, rfl, Or.inr rfl, rfl⟩
set_option maxRecDepth 100000 in
theorem lk178_111 : xAt kT178 111 (.aload_n 0) 112 := ⟨1, rfl, Or.inr rfl, rfl⟩
set_option maxRecDepth 100000 in
theorem lk178_112 : xAt kT178 112 (.getfield 88) 115 := ⟨3, rfl, Or.inr rfl, rfl⟩
set_option maxRecDepth 100000 in
theorem lk178_115 : xAt kT178 115 (.aload_n 0) 116 := ⟨1, rfl, Or.inr rfl, rfl⟩
set_option maxRecDepth 100000 in
theorem lk178_116 : xAt kT178 116 (.getfield 21) 119 := ⟨3, rfl, Or.inr rfl, rfl⟩
set_option maxRecDepth 100000 in
theorem lk178_119 : xAt kT178 119 (.getfield 118) 122 := ⟨3, rfl, Or.inr rfl, rfl⟩
set_option maxRecDepth 100000 in
theorem lk178_122 : xAt kT178 122 (.iconst 1) 123 := ⟨1, rfl, Or.inr rfl, rfl⟩
set_option maxRecDepth 100000 in
theorem lk178_123 : xAt kT178 123 (.iadd) 124 := ⟨1, rfl, Or.inr rfl, rfl⟩
set_option maxRecDepth 100000 in
theorem lk178_124 : xAt kT178 124 (.invokevirtual 547) 127 := ⟨3, rfl, Or.inr rfl, rfl⟩
set_option maxRecDepth 100000 in
theorem lk178_127 : xAt kT178 127 (.goto 98) 130 := ⟨3, rfl, Or.inr rfl, rfl⟩
set_option maxRecDepth 100000 in
theorem lk178_130 : xAt kT178 130 (.aload_n 0) 131 := ⟨1, rfl, Or.inr rfl, rfl⟩
set_option maxRecDepth 100000 in
theorem lk178_131 : xAt kT178 131 (.getfield 72) 134 := ⟨3, rfl, Or.inr rfl, rfl⟩
set_option maxRecDepth 100000 in
theorem lk178_134 : xAt kT178 134 (.invokevirtual 326) 137 := ⟨3, rfl, Or.inr rfl, rfl⟩
set_option maxRecDepth 100000 in
theorem lk178_137 : xAt kT178 137 (.sipush 200) 140 := ⟨3, rfl, Or.inr rfl, rfl⟩
set_option maxRecDepth 100000 in
theorem lk178_140 : xAt kT178 140 (.if_icmp .lt 21) 143 := ⟨3, rfl, Or.inr rfl, rfl⟩
set_option maxRecDepth 100000 in
theorem lk178_143 : xAt kT178 143 (.aload_n 0) 144 := ⟨1, rfl, Or.inr rfl, rfl⟩
set_option maxRecDepth 100000 in
theorem lk178_144 : xAt kT178 144 (.aload_n 1) 145 := ⟨1, rfl, Or.inr rfl, rfl⟩
set_option maxRecDepth 100000 in
theorem lk178_145 : xAt kT178 145 (.getfield 181) 148 := ⟨3, rfl, Or.inr rfl, rfl⟩
set_option maxRecDepth 100000 in
theorem lk178_148 : xAt kT178 148 (.aload_n 1) 149 := ⟨1, rfl, Or.inr rfl, rfl⟩
set_option maxRecDepth 100000 in
theorem lk178_149 : xAt kT178 149 (.getfield 342) 152 := ⟨3, rfl, Or.inr rfl, rfl⟩
set_option maxRecDepth 100000 in
theorem lk178_152 : xAt kT178 152 (.iconst 3) 153 := ⟨1, rfl, Or.inr rfl, rfl⟩
set_option maxRecDepth 100000 in
theorem lk178_153 : xAt kT178 153 (.iconst (-1)) 154 := ⟨1, rfl, Or.inr rfl, rfl⟩
set_option maxRecDepth 100000 in
theorem lk178_154 : xAt kT178 154 (.iconst 0) 155 := ⟨1, rfl, Or.inr rfl, rfl⟩
set_option maxRecDepth 100000 in
theorem lk178_155 : xAt kT178 155 (.invokevirtual 542) 158 := ⟨3, rfl, Or.inr rfl, rfl⟩
set_option maxRecDepth 100000 in
theorem lk178_158 : xAt kT178 158 (.goto 67) 161 := ⟨3, rfl, Or.inr rfl, rfl⟩
set_option maxRecDepth 100000 in
theorem lk178_161 : xAt kT178 161 (.aload_n 0) 162 := ⟨1, rfl, Or.inr rfl, rfl⟩
set_option maxRecDepth 100000 in
theorem lk178_162 : xAt kT178 162 (.aload_n 0) 163 := ⟨1, rfl, Or.inr rfl, rfl⟩
set_option maxRecDepth 100000 in
theorem lk178_163 : xAt kT178 163 (.getfield 72) 166 := ⟨3, rfl, Or.inr rfl, rfl⟩
set_option maxRecDepth 100000 in
theorem lk178_166 : xAt kT178 166 (.aload_n 0) 167 := ⟨1, rfl, Or.inr rfl, rfl⟩
set_option maxRecDepth 100000 in
theorem lk178_167 : xAt kT178 167 (.getfield 88) 170 := ⟨3, rfl, Or.inr rfl, rfl⟩
set_option maxRecDepth 100000 in
theorem lk178_170 : xAt kT178 170 (.iconst 2) 171 := ⟨1, rfl, Or.inr rfl, rfl⟩
set_option maxRecDepth 100000 in
theorem lk178_171 : xAt kT178 171 (.aload_n 1) 172 := ⟨1, rfl, Or.inr rfl, rfl⟩
set_option maxRecDepth 100000 in
theorem lk178_172 : xAt kT178 172 (.getfield 365) 175 := ⟨3, rfl, Or.inr rfl, rfl⟩
set_option maxRecDepth 100000 in
theorem lk178_175 : xAt kT178 175 (.aload_n 1) 176 := ⟨1, rfl, Or.inr rfl, rfl⟩
set_option maxRecDepth 100000 in
theorem lk178_176 : xAt kT178 176 (.getfield 550) 179 := ⟨3, rfl, Or.inr rfl, rfl⟩
set_option maxRecDepth 100000 in
theorem lk178_179 : xAt kT178 179 (.aload_n 1) 180 := ⟨1, rfl, Or.inr rfl, rfl⟩
set_option maxRecDepth 100000 in
theorem lk178_180 : xAt kT178 180 (.getfield 553) 183 := ⟨3, rfl, Or.inr rfl, rfl⟩
set_option maxRecDepth 100000 in
theorem lk178_183 : xAt kT178 183 (.aload_n 1) 184 := ⟨1, rfl, Or.inr rfl, rfl⟩
set_option maxRecDepth 100000 in
theorem lk178_184 : xAt kT178 184 (.getfield 556) 187 := ⟨3, rfl, Or.inr rfl, rfl⟩
set_option maxRecDepth 100000 in
theorem lk178_187 : xAt kT178 187 (.invokevirtual 447) 190 := ⟨3, rfl, Or.inr rfl, rfl⟩
set_option maxRecDepth 100000 in
theorem lk178_190 : xAt kT178 190 (.iconst 0) 191 := ⟨1, rfl, Or.inr rfl, rfl⟩
set_option maxRecDepth 100000 in
theorem lk178_191 : xAt kT178 191 (.invokevirtual 451) 194 := ⟨3, rfl, Or.inr rfl, rfl⟩
set_option maxRecDepth 100000 in
theorem lk178_194 : xAt kT178 194 (.aload_n 0) 195 := ⟨1, rfl, Or.inr rfl, rfl⟩
set_option maxRecDepth 100000 in
theorem lk178_195 : xAt kT178 195 (.getfield 28) 198 := ⟨3, rfl, Or.inr rfl, rfl⟩
set_option maxRecDepth 100000 in
theorem lk178_198 : xAt kT178 198 (.aload_n 1) 199 := ⟨1, rfl, Or.inr rfl, rfl⟩
set_option maxRecDepth 100000 in
theorem lk178_199 : xAt kT178 199 (.aload_n 0) 200 := ⟨1, rfl, Or.inr rfl, rfl⟩
set_option maxRecDepth 100000 in
theorem lk178_200 : xAt kT178 200 (.getfield 72) 203 := ⟨3, rfl, Or.inr rfl, rfl⟩
set_option maxRecDepth 100000 in
theorem lk178_203 : xAt kT178 203 (.getfield 103) 206 := ⟨3, rfl, Or.inr rfl, rfl⟩
set_option maxRecDepth 100000 in
theorem lk178_206 : xAt kT178 206 (.aload_n 0) 207 := ⟨1, rfl, Or.inr rfl, rfl⟩
set_option maxRecDepth 100000 in
theorem lk178_207 : xAt kT178 207 (.getfield 88) 210 := ⟨3, rfl, Or.inr rfl, rfl⟩
set_option maxRecDepth 100000 in
theorem lk178_210 : xAt kT178 210 (.iconst (-1)) 211 := ⟨1, rfl, Or.inr rfl, rfl⟩
set_option maxRecDepth 100000 in
theorem lk178_211 : xAt kT178 211 (.invokevirtual 547) 214 := ⟨3, rfl, Or.inr rfl, rfl⟩
set_option maxRecDepth 100000 in
theorem lk178_214 : xAt kT178 214 (.aload_n 0) 215 := ⟨1, rfl, Or.inr rfl, rfl⟩
set_option maxRecDepth 100000 in
theorem lk178_215 : xAt kT178 215 (.dup) 216 := ⟨1, rfl, Or.inr rfl, rfl⟩
set_option maxRecDepth 100000 in
theorem lk178_216 : xAt kT178 216 (.getfield 146) 219 := ⟨3, rfl, Or.inr rfl, rfl⟩
set_option maxRecDepth 100000 in
theorem lk178_219 : xAt kT178 219 (.bipush 64) 221 := ⟨2, rfl, Or.inr rfl, rfl⟩
set_option maxRecDepth 100000 in
theorem lk178_221 : xAt kT178 221 (.ior) 222 := ⟨1, rfl, Or.inr rfl, rfl⟩
set_option maxRecDepth 100000 in
theorem lk178_222 : xAt kT178 222 (.putfield 146) 225 := ⟨3, rfl, Or.inr rfl, rfl⟩
set_option maxRecDepth 100000 in
theorem lk178_225 : xAt kT178 225 (.return_) 226 := ⟨1, rfl, Or.inr rfl, rfl⟩
set_option maxRecDepth 100000 in
theorem lk173_0 : xAt kT173 0 (.aload_n 1) 1 := ⟨1, rfl, Or.inr rfl, rfl⟩
set_option maxRecDepth 100000 in
theorem lk173_1 : xAt kT173 1 (.getfield 342) 4 := ⟨3, rfl, Or.inr rfl, rfl⟩
set_option maxRecDepth 100000 in
theorem lk173_4 : xAt kT173 4 (.aload_n 0) 5 := ⟨1, rfl, Or.inr rfl, rfl⟩
set_option maxRecDepth 100000 in
theorem lk173_5 : xAt kT173 5 (.getfield 88) 8 := ⟨3, rfl, Or.inr rfl, rfl⟩
set_option maxRecDepth 100000 in
theorem lk173_8 : xAt kT173 8 (.if_icmp .ne 42) 11 := ⟨3, rfl, Or.inr rfl, rfl⟩
set_option maxRecDepth 100000 in
theorem lk173_11 : xAt kT173 11 (.aload_n 0) 12 := ⟨1, rfl, Or.inr rfl, rfl⟩
set_option maxRecDepth 100000 in
theorem lk173_12 : xAt kT173 12 (.getfield 85) 15 := ⟨3, rfl, Or.inr rfl, rfl⟩
set_option maxRecDepth 100000 in
theorem lk173_15 : xAt kT173 15 (.ifCond .eq 11) 18 := ⟨3, rfl, Or.inr rfl, rfl⟩
set_option maxRecDepth 100000 in
theorem lk173_18 : xAt kT173 18 (.aload_n 0) 19 := ⟨1, rfl, Or.inr rfl, rfl⟩
set_option maxRecDepth 100000 in
theorem lk173_19 : xAt kT173 19 (.getfield 85) 22 := ⟨3, rfl, Or.inr rfl, rfl⟩
set_option maxRecDepth 100000 in
theorem lk173_22 : xAt kT173 22 (.iconst 1) 23 := ⟨1, rfl, Or.inr rfl, rfl⟩
set_option maxRecDepth 100000 in
theorem lk173_23 : xAt kT173 23 (.if_icmp .ne 27) 26 := ⟨3, rfl, Or.inr rfl, rfl⟩
set_option maxRecDepth 100000 in
theorem lk173_26 : xAt kT173 26 (.aload_n 0) 27 := ⟨1, rfl, Or.inr rfl, rfl⟩
set_option maxRecDepth 100000 in
theorem lk173_27 : xAt kT173 27 (.invokevirtual 367) 30 := ⟨3, rfl, Or.inr rfl, rfl⟩
set_option maxRecDepth 100000 in
theorem lk173_30 : xAt kT173 30 (.aload_n 0) 31 := ⟨1, rfl, Or.inr rfl, rfl⟩
set_option maxRecDepth 100000 in
theorem lk173_31 : xAt kT173 31 (.getfield 60) 34 := ⟨3, rfl, Or.inr rfl, rfl⟩
set_option maxRecDepth 100000 in
theorem lk173_34 : xAt kT173 34 (.ishr) 35 := ⟨1, rfl, Or.inr rfl, rfl⟩
set_option maxRecDepth 100000 in
theorem lk173_35 : xAt kT173 35 (.iconst 1) 36 := ⟨1, rfl, Or.inr rfl, rfl⟩
set_option maxRecDepth 100000 in
theorem lk173_36 : xAt kT173 36 (.iand) 37 := ⟨1, rfl, Or.inr rfl, rfl⟩
set_option maxRecDepth 100000 in
theorem lk173_37 : xAt kT173 37 (.ifCond .eq 13) 40 := ⟨3, rfl, Or.inr rfl, rfl⟩
set_option maxRecDepth 100000 in
theorem lk173_40 : xAt kT173 40 (.aload_n 0) 41 := ⟨1, rfl, Or.inr rfl, rfl⟩
set_option maxRecDepth 100000 in
theorem lk173_41 : xAt kT173 41 (.dup) 42 := ⟨1, rfl, Or.inr rfl, rfl⟩
set_option maxRecDepth 100000 in
theorem lk173_42 : xAt kT173 42 (.getfield 146) 45 := ⟨3, rfl, Or.inr rfl, rfl⟩
set_option maxRecDepth 100000 in
theorem lk173_45 : xAt kT173 45 (.iconst 1) 46 := ⟨1, rfl, Or.inr rfl, rfl⟩
set_option maxRecDepth 100000 in
theorem lk173_46 : xAt kT173 46 (.ior) 47 := ⟨1, rfl, Or.inr rfl, rfl⟩
set_option maxRecDepth 100000 in
theorem lk173_47 : xAt kT173 47 (.putfield 146) 50 := ⟨3, rfl, Or.inr rfl, rfl⟩
set_option maxRecDepth 100000 in
theorem lk173_50 : xAt kT173 50 (.return_) 51 := ⟨1, rfl, Or.inr rfl, rfl⟩
set_option maxRecDepth 100000 in
theorem lk180_0 : xAt kT180 0 (.aload_n 0) 1 := ⟨1, rfl, Or.inr rfl, rfl⟩
set_option maxRecDepth 100000 in
theorem lk180_1 : xAt kT180 1 (.aload_n 1) 2 := ⟨1, rfl, Or.inr rfl, rfl⟩
set_option maxRecDepth 100000 in
theorem lk180_2 : xAt kT180 2 (.invokevirtual 539) 5 := ⟨3, rfl, Or.inr rfl, rfl⟩
set_option maxRecDepth 100000 in
theorem lk180_5 : xAt kT180 5 (.ifCond .ne 4) 8 := ⟨3, rfl, Or.inr rfl, rfl⟩
set_option maxRecDepth 100000 in
theorem lk180_8 : xAt kT180 8 (.return_) 9 := ⟨1, rfl, Or.inr rfl, rfl⟩
set_option maxRecDepth 100000 in
theorem lk180_9 : xAt kT180 9 (.aload_n 1) 10 := ⟨1, rfl, Or.inr rfl, rfl⟩
set_option maxRecDepth 100000 in
theorem lk180_10 : xAt kT180 10 (.getfield 181) 13 := ⟨3, rfl, Or.inr rfl, rfl⟩
set_option maxRecDepth 100000 in
theorem lk180_13 : xAt kT180 13 (.istore_n 2) 14 := ⟨1, rfl, Or.inr rfl, rfl⟩
set_option maxRecDepth 100000 in
theorem lk180_14 : xAt kT180 14 (.aload_n 0) 15 := ⟨1, rfl, Or.inr rfl, rfl⟩
set_option maxRecDepth 100000 in
theorem lk180_15 : xAt kT180 15 (.getfield 21) 18 := ⟨3, rfl, Or.inr rfl, rfl⟩
set_option maxRecDepth 100000 in
theorem lk180_18 : xAt kT180 18 (.getfield 383) 21 := ⟨3, rfl, Or.inr rfl, rfl⟩
set_option maxRecDepth 100000 in
theorem lk180_21 : xAt kT180 21 (.iload_n 2) 22 := ⟨1, rfl, Or.inr rfl, rfl⟩
set_option maxRecDepth 100000 in
theorem lk180_22 : xAt kT180 22 (.iconst 0) 23 := ⟨1, rfl, Or.inr rfl, rfl⟩
set_option maxRecDepth 100000 in
theorem lk180_23 : xAt kT180 23 (.iastore) 24 := ⟨1, rfl, Or.inr rfl, rfl⟩
set_option maxRecDepth 100000 in
theorem lk180_24 : xAt kT180 24 (.aload_n 1) 25 := ⟨1, rfl, Or.inr rfl, rfl⟩
set_option maxRecDepth 100000 in
theorem lk180_25 : xAt kT180 25 (.getfield 189) 28 := ⟨3, rfl, Or.inr rfl, rfl⟩
set_option maxRecDepth 100000 in
theorem lk180_28 : xAt kT180 28 (.aload_n 0) 29 := ⟨1, rfl, Or.inr rfl, rfl⟩
set_option maxRecDepth 100000 in
theorem lk180_29 : xAt kT180 29 (.getfield 72) 32 := ⟨3, rfl, Or.inr rfl, rfl⟩
set_option maxRecDepth 100000 in
theorem lk180_32 : xAt kT180 32 (.getfield 100) 35 := ⟨3, rfl, Or.inr rfl, rfl⟩
set_option maxRecDepth 100000 in
theorem lk180_35 : xAt kT180 35 (.if_icmp .eq 16) 38 := ⟨3, rfl, Or.inr rfl, rfl⟩
set_option maxRecDepth 100000 in
theorem lk180_38 : xAt kT180 38 (.aload_n 0) 39 := ⟨1, rfl, Or.inr rfl, rfl⟩
set_option maxRecDepth 100000 in
theorem lk180_39 : xAt kT180 39 (.getfield 21) 42 := ⟨3, rfl, Or.inr rfl, rfl⟩
set_option maxRecDepth 100000 in
theorem lk180_42 : xAt kT180 42 (.getfield 386) 45 := ⟨3, rfl, Or.inr rfl, rfl⟩
set_option maxRecDepth 100000 in
theorem lk180_45 : xAt kT180 45 (.iload_n 2) 46 := ⟨1, rfl, Or.inr rfl, rfl⟩
set_option maxRecDepth 100000 in
theorem lk180_46 : xAt kT180 46 (.iconst 0) 47 := ⟨1, rfl, Or.inr rfl, rfl⟩
set_option maxRecDepth 100000 in
theorem lk180_47 : xAt kT180 47 (.iastore) 48 := ⟨1, rfl, Or.inr rfl, rfl⟩
set_option maxRecDepth 100000 in
theorem lk180_48 : xAt kT180 48 (.goto 99) 51 := ⟨3, rfl, Or.inr rfl, rfl⟩
set_option maxRecDepth 100000 in
theorem lk180_51 : xAt kT180 51 (.aload_n 1) 52 := ⟨1, rfl, Or.inr rfl, rfl⟩
set_option maxRecDepth 100000 in
theorem lk180_52 : xAt kT180 52 (.getfield 365) 55 := ⟨3, rfl, Or.inr rfl, rfl⟩
set_option maxRecDepth 100000 in
theorem lk180_55 : xAt kT180 55 (.aload_n 0) 56 := ⟨1, rfl, Or.inr rfl, rfl⟩
set_option maxRecDepth 100000 in
theorem lk180_56 : xAt kT180 56 (.getfield 12) 59 := ⟨3, rfl, Or.inr rfl, rfl⟩
set_option maxRecDepth 100000 in
theorem lk180_59 : xAt kT180 59 (.invokevirtual 137) 62 := ⟨3, rfl, Or.inr rfl, rfl⟩
set_option maxRecDepth 100000 in
theorem lk180_62 : xAt kT180 62 (.if_icmp .lt 72) 65 := ⟨3, rfl, Or.inr rfl, rfl⟩
set_option maxRecDepth 100000 in
theorem lk180_65 : xAt kT180 65 (.aload_n 0) 66 := ⟨1, rfl, Or.inr rfl, rfl⟩
set_option maxRecDepth 100000 in
theorem lk180_66 : xAt kT180 66 (.getfield 21) 69 := ⟨3, rfl, Or.inr rfl, rfl⟩
set_option maxRecDepth 100000 in
theorem lk180_69 : xAt kT180 69 (.getfield 459) 72 := ⟨3, rfl, Or.inr rfl, rfl⟩
set_option maxRecDepth 100000 in
theorem lk180_72 : xAt kT180 72 (.iload_n 2) 73 := ⟨1, rfl, Or.inr rfl, rfl⟩
set_option maxRecDepth 100000 in
theorem lk180_73 : xAt kT180 73 (.aload_n 0) 74 := ⟨1, rfl, Or.inr rfl, rfl⟩
set_option maxRecDepth 100000 in
theorem lk180_74 : xAt kT180 74 (.getfield 21) 77 := ⟨3, rfl, Or.inr rfl, rfl⟩
set_option maxRecDepth 100000 in
theorem lk180_77 : xAt kT180 77 (.getfield 459) 80 := ⟨3, rfl, Or.inr rfl, rfl⟩
set_option maxRecDepth 100000 in
theorem lk180_80 : xAt kT180 80 (.iload_n 2) 81 := ⟨1, rfl, Or.inr rfl, rfl⟩
set_option maxRecDepth 100000 in
theorem lk180_81 : xAt kT180 81 (.iaload) 82 := ⟨1, rfl, Or.inr rfl, rfl⟩
set_option maxRecDepth 100000 in
theorem lk180_82 : xAt kT180 82 (.aload_n 0) 83 := ⟨1, rfl, Or.inr rfl, rfl⟩
set_option maxRecDepth 100000 in
theorem lk180_83 : xAt kT180 83 (.getfield 72) 86 := ⟨3, rfl, Or.inr rfl, rfl⟩
set_option maxRecDepth 100000 in
theorem lk180_86 : xAt kT180 86 (.getfield 100) 89 := ⟨3, rfl, Or.inr rfl, rfl⟩
set_option maxRecDepth 100000 in
theorem lk180_89 : xAt kT180 89 (.invokestatic 293) 92 := ⟨3, rfl, Or.inr rfl, rfl⟩
set_option maxRecDepth 100000 in
theorem lk180_92 : xAt kT180 92 (.iastore) 93 := ⟨1, rfl, Or.inr rfl, rfl⟩
set_option maxRecDepth 100000 in
theorem lk180_93 : xAt kT180 93 (.aload_n 0) 94 := ⟨1, rfl, Or.inr rfl, rfl⟩
set_option maxRecDepth 100000 in
theorem lk180_94 : xAt kT180 94 (.getfield 21) 97 := ⟨3, rfl, Or.inr rfl, rfl⟩
set_option maxRecDepth 100000 in
theorem lk180_97 : xAt kT180 97 (.getfield 380) 100 := ⟨3, rfl, Or.inr rfl, rfl⟩
set_option maxRecDepth 100000 in
theorem lk180_100 : xAt kT180 100 (.iload_n 2) 101 := ⟨1, rfl, Or.inr rfl, rfl⟩
set_option maxRecDepth 100000 in
theorem lk180_101 : xAt kT180 101 (.aload_n 0) 102 := ⟨1, rfl, Or.inr rfl, rfl⟩
set_option maxRecDepth 100000 in
theorem lk180_102 : xAt kT180 102 (.getfield 72) 105 := ⟨3, rfl, Or.inr rfl, rfl⟩
set_option maxRecDepth 100000 in
theorem lk180_105 : xAt kT180 105 (.getfield 100) 108 := ⟨3, rfl, Or.inr rfl, rfl⟩
set_option maxRecDepth 100000 in
theorem lk180_108 : xAt kT180 108 (.iconst 1) 109 := ⟨1, rfl, Or.inr rfl, rfl⟩
set_option maxRecDepth 100000 in
theorem lk180_109 : xAt kT180 109 (.iadd) 110 := ⟨1, rfl, Or.inr rfl, rfl⟩
set_option maxRecDepth 100000 in
theorem lk180_110 : xAt kT180 110 (.iastore) 111 := ⟨1, rfl, Or.inr rfl, rfl⟩
set_option maxRecDepth 100000 in
theorem lk180_111 : xAt kT180 111 (.aload_n 0) 112 := ⟨1, rfl, Or.inr rfl, rfl⟩
set_option maxRecDepth 100000 in
theorem lk180_112 : xAt kT180 112 (.getfield 21) 115 := ⟨3, rfl, Or.inr rfl, rfl⟩
set_option maxRecDepth 100000 in
theorem lk180_115 : xAt kT180 115 (.getfield 393) 118 := ⟨3, rfl, Or.inr rfl, rfl⟩
set_option maxRecDepth 100000 in
theorem lk180_118 : xAt kT180 118 (.iload_n 2) 119 := ⟨1, rfl, Or.inr rfl, rfl⟩
set_option maxRecDepth 100000 in
theorem lk180_119 : xAt kT180 119 (.iconst 1) 120 := ⟨1, rfl, Or.inr rfl, rfl⟩
set_option maxRecDepth 100000 in
theorem lk180_120 : xAt kT180 120 (.bastore) 121 := ⟨1, rfl, Or.inr rfl, rfl⟩
set_option maxRecDepth 100000 in
theorem lk180_121 : xAt kT180 121 (.aload_n 0) 122 := ⟨1, rfl, Or.inr rfl, rfl⟩
set_option maxRecDepth 100000 in
theorem lk180_122 : xAt kT180 122 (.getfield 21) 125 := ⟨3, rfl, Or.inr rfl, rfl⟩
set_option maxRecDepth 100000 in
theorem lk180_125 : xAt kT180 125 (.getfield 386) 128 := ⟨3, rfl, Or.inr rfl, rfl⟩
set_option maxRecDepth 100000 in
theorem lk180_128 : xAt kT180 128 (.iload_n 2) 129 := ⟨1, rfl, Or.inr rfl, rfl⟩
set_option maxRecDepth 100000 in
theorem lk180_129 : xAt kT180 129 (.iconst 0) 130 := ⟨1, rfl, Or.inr rfl, rfl⟩
set_option maxRecDepth 100000 in
theorem lk180_130 : xAt kT180 130 (.iastore) 131 := ⟨1, rfl, Or.inr rfl, rfl⟩
set_option maxRecDepth 100000 in
theorem lk180_131 : xAt kT180 131 (.goto 16) 134 := ⟨3, rfl, Or.inr rfl, rfl⟩
set_option maxRecDepth 100000 in
theorem lk180_134 : xAt kT180 134 (.aload_n 0) 135 := ⟨1, rfl, Or.inr rfl, rfl⟩
set_option maxRecDepth 100000 in
theorem lk180_135 : xAt kT180 135 (.getfield 21) 138 := ⟨3, rfl, Or.inr rfl, rfl⟩
set_option maxRecDepth 100000 in
theorem lk180_138 : xAt kT180 138 (.getfield 386) 141 := ⟨3, rfl, Or.inr rfl, rfl⟩
set_option maxRecDepth 100000 in
theorem lk180_141 : xAt kT180 141 (.iload_n 2) 142 := ⟨1, rfl, Or.inr rfl, rfl⟩
set_option maxRecDepth 100000 in
theorem lk180_142 : xAt kT180 142 (.aload_n 1) 143 := ⟨1, rfl, Or.inr rfl, rfl⟩
set_option maxRecDepth 100000 in
theorem lk180_143 : xAt kT180 143 (.getfield 365) 146 := ⟨3, rfl, Or.inr rfl, rfl⟩
set_option maxRecDepth 100000 in
theorem lk180_146 : xAt kT180 146 (.iastore) 147 := ⟨1, rfl, Or.inr rfl, rfl⟩
set_option maxRecDepth 100000 in
theorem lk180_147 : xAt kT180 147 (.return_) 148 := ⟨1, rfl, Or.inr rfl, rfl⟩
set_option maxRecDepth 100000 in
theorem lk159_0 : xAt kT159 0 (.aload_n 0) 1 := ⟨1, rfl, Or.inr rfl, rfl⟩
set_option maxRecDepth 100000 in
theorem lk159_1 : xAt kT159 1 (.iload_n 1) 2 := ⟨1, rfl, Or.inr rfl, rfl⟩
set_option maxRecDepth 100000 in
theorem lk159_2 : xAt kT159 2 (.bipush 8) 4 := ⟨2, rfl, Or.inr rfl, rfl⟩
set_option maxRecDepth 100000 in
theorem lk159_4 : xAt kT159 4 (.invokevirtual 351) 7 := ⟨3, rfl, Or.inr rfl, rfl⟩
set_option maxRecDepth 100000 in
theorem lk159_7 : xAt kT159 7 (.astore 5) 9 := ⟨2, rfl, Or.inr rfl, rfl⟩
set_option maxRecDepth 100000 in
theorem lk159_9 : xAt kT159 9 (.aload 5) 11 := ⟨2, rfl, Or.inr rfl, rfl⟩
set_option maxRecDepth 100000 in
theorem lk159_11 : xAt kT159 11 (.iload_n 2) 12 := ⟨1, rfl, Or.inr rfl, rfl⟩
set_option maxRecDepth 100000 in
theorem lk159_12 : xAt kT159 12 (.putfield 189) 15 := ⟨3, rfl, Or.inr rfl, rfl⟩
set_option maxRecDepth 100000 in
theorem lk159_15 : xAt kT159 15 (.aload 5) 17 := ⟨2, rfl, Or.inr rfl, rfl⟩
set_option maxRecDepth 100000 in
theorem lk159_17 : xAt kT159 17 (.iload_n 3) 18 := ⟨1, rfl, Or.inr rfl, rfl⟩
set_option maxRecDepth 100000 in
theorem lk159_18 : xAt kT159 18 (.putfield 365) 21 := ⟨3, rfl, Or.inr rfl, rfl⟩
set_option maxRecDepth 100000 in
theorem lk159_21 : xAt kT159 21 (.aload 5) 23 := ⟨2, rfl, Or.inr rfl, rfl⟩
set_option maxRecDepth 100000 in
theorem lk159_23 : xAt kT159 23 (.iload 4) 25 := ⟨2, rfl, Or.inr rfl, rfl⟩
set_option maxRecDepth 100000 in
theorem lk159_25 : xAt kT159 25 (.putfield 192) 28 := ⟨3, rfl, Or.inr rfl, rfl⟩
set_option maxRecDepth 100000 in
theorem lk159_28 : xAt kT159 28 (.aload_n 0) 29 := ⟨1, rfl, Or.inr rfl, rfl⟩
set_option maxRecDepth 100000 in
theorem lk159_29 : xAt kT159 29 (.aload 5) 31 := ⟨2, rfl, Or.inr rfl, rfl⟩
set_option maxRecDepth 100000 in
theorem lk159_31 : xAt kT159 31 (.invokevirtual 362) 34 := ⟨3, rfl, Or.inr rfl, rfl⟩
set_option maxRecDepth 100000 in
theorem lk159_34 : xAt kT159 34 (.return_) 35 := ⟨1, rfl, Or.inr rfl, rfl⟩
set_option maxRecDepth 100000 in
theorem lk179_0 : xAt kT179 0 (.aload_n 0) 1 := ⟨1, rfl, Or.inr rfl, rfl⟩
set_option maxRecDepth 100000 in
theorem lk179_1 : xAt kT179 1 (.getfield 12) 4 := ⟨3, rfl, Or.inr rfl, rfl⟩
set_option maxRecDepth 100000 in
theorem lk179_4 : xAt kT179 4 (.aload_n 1) 5 := ⟨1, rfl, Or.inr rfl, rfl⟩
set_option maxRecDepth 100000 in
theorem lk179_5 : xAt kT179 5 (.getfield 189) 8 := ⟨3, rfl, Or.inr rfl, rfl⟩
set_option maxRecDepth 100000 in
theorem lk179_8 : xAt kT179 8 (.aload_n 1) 9 := ⟨1, rfl, Or.inr rfl, rfl⟩
set_option maxRecDepth 100000 in
theorem lk179_9 : xAt kT179 9 (.getfield 370) 12 := ⟨3, rfl, Or.inr rfl, rfl⟩
set_option maxRecDepth 100000 in
theorem lk179_12 : xAt kT179 12 (.aload_n 1) 13 := ⟨1, rfl, Or.inr rfl, rfl⟩
set_option maxRecDepth 100000 in
theorem lk179_13 : xAt kT179 13 (.getfield 422) 16 := ⟨3, rfl, Or.inr rfl, rfl⟩
set_option maxRecDepth 100000 in
theorem lk179_16 : xAt kT179 16 (.aload_n 0) 17 := ⟨1, rfl, Or.inr rfl, rfl⟩
set_option maxRecDepth 100000 in
theorem lk179_17 : xAt kT179 17 (.getfield 56) 20 := ⟨3, rfl, Or.inr rfl, rfl⟩
set_option maxRecDepth 100000 in
theorem lk179_20 : xAt kT179 20 (.aload_n 0) 21 := ⟨1, rfl, Or.inr rfl, rfl⟩
set_option maxRecDepth 100000 in
theorem lk179_21 : xAt kT179 21 (.getfield 238) 24 := ⟨3, rfl, Or.inr rfl, rfl⟩
set_option maxRecDepth 100000 in
theorem lk179_24 : xAt kT179 24 (.invokevirtual 532) 27 := ⟨3, rfl, Or.inr rfl, rfl⟩
set_option maxRecDepth 100000 in
theorem lk179_27 : xAt kT179 27 (.aload_n 0) 28 := ⟨1, rfl, Or.inr rfl, rfl⟩
set_option maxRecDepth 100000 in
theorem lk179_28 : xAt kT179 28 (.getfield 72) 31 := ⟨3, rfl, Or.inr rfl, rfl⟩
set_option maxRecDepth 100000 in
theorem lk179_31 : xAt kT179 31 (.aload_n 1) 32 := ⟨1, rfl, Or.inr rfl, rfl⟩
set_option maxRecDepth 100000 in
theorem lk179_32 : xAt kT179 32 (.getfield 189) 35 := ⟨3, rfl, Or.inr rfl, rfl⟩
set_option maxRecDepth 100000 in
theorem lk179_35 : xAt kT179 35 (.aload_n 1) 36 := ⟨1, rfl, Or.inr rfl, rfl⟩
set_option maxRecDepth 100000 in
theorem lk179_36 : xAt kT179 36 (.getfield 370) 39 := ⟨3, rfl, Or.inr rfl, rfl⟩
set_option maxRecDepth 100000 in
theorem lk179_39 : xAt kT179 39 (.aload_n 1) 40 := ⟨1, rfl, Or.inr rfl, rfl⟩
set_option maxRecDepth 100000 in
theorem lk179_40 : xAt kT179 40 (.getfield 422) 43 := ⟨3, rfl, Or.inr rfl, rfl⟩
set_option maxRecDepth 100000 in
theorem lk179_43 : xAt kT179 43 (.invokevirtual 272) 46 := ⟨3, rfl, Or.inr rfl, rfl⟩
set_option maxRecDepth 100000 in
theorem lk179_46 : xAt kT179 46 (.aload_n 0) 47 := ⟨1, rfl, Or.inr rfl, rfl⟩
set_option maxRecDepth 100000 in
theorem lk179_47 : xAt kT179 47 (.getfield 12) 50 := ⟨3, rfl, Or.inr rfl, rfl⟩
set_option maxRecDepth 100000 in
theorem lk179_50 : xAt kT179 50 (.aload_n 0) 51 := ⟨1, rfl, Or.inr rfl, rfl⟩
set_option maxRecDepth 100000 in
theorem lk179_51 : xAt kT179 51 (.getfield 72) 54 := ⟨3, rfl, Or.inr rfl, rfl⟩
set_option maxRecDepth 100000 in
theorem lk179_54 : xAt kT179 54 (.getfield 100) 57 := ⟨3, rfl, Or.inr rfl, rfl⟩
set_option maxRecDepth 100000 in
theorem lk179_57 : xAt kT179 57 (.aload_n 0) 58 := ⟨1, rfl, Or.inr rfl, rfl⟩
set_option maxRecDepth 100000 in
theorem lk179_58 : xAt kT179 58 (.getfield 72) 61 := ⟨3, rfl, Or.inr rfl, rfl⟩
set_option maxRecDepth 100000 in
theorem lk179_61 : xAt kT179 61 (.getfield 103) 64 := ⟨3, rfl, Or.inr rfl, rfl⟩
set_option maxRecDepth 100000 in
theorem lk179_64 : xAt kT179 64 (.invokevirtual 536) 67 := ⟨3, rfl, Or.inr rfl, rfl⟩
set_option maxRecDepth 100000 in
theorem lk179_67 : xAt kT179 67 (.aload_n 0) 68 := ⟨1, rfl, Or.inr rfl, rfl⟩
set_option maxRecDepth 100000 in
theorem lk179_68 : xAt kT179 68 (.getfield 72) 71 := ⟨3, rfl, Or.inr rfl, rfl⟩
set_option maxRecDepth 100000 in
theorem lk179_71 : xAt kT179 71 (.aload_n 0) 72 := ⟨1, rfl, Or.inr rfl, rfl⟩
set_option maxRecDepth 100000 in
theorem lk179_72 : xAt kT179 72 (.getfield 72) 75 := ⟨3, rfl, Or.inr rfl, rfl⟩
set_option maxRecDepth 100000 in
theorem lk179_75 : xAt kT179 75 (.getfield 100) 78 := ⟨3, rfl, Or.inr rfl, rfl⟩
set_option maxRecDepth 100000 in
theorem lk179_78 : xAt kT179 78 (.putfield 91) 81 := ⟨3, rfl, Or.inr rfl, rfl⟩
set_option maxRecDepth 100000 in
theorem lk179_81 : xAt kT179 81 (.aload_n 0) 82 := ⟨1, rfl, Or.inr rfl, rfl⟩
set_option maxRecDepth 100000 in
theorem lk179_82 : xAt kT179 82 (.getfield 72) 85 := ⟨3, rfl, Or.inr rfl, rfl⟩
set_option maxRecDepth 100000 in
theorem lk179_85 : xAt kT179 85 (.aload_n 0) 86 := ⟨1, rfl, Or.inr rfl, rfl⟩
set_option maxRecDepth 100000 in
theorem lk179_86 : xAt kT179 86 (.getfield 72) 89 := ⟨3, rfl, Or.inr rfl, rfl⟩
set_option maxRecDepth 100000 in
theorem lk179_89 : xAt kT179 89 (.getfield 100) 92 := ⟨3, rfl, Or.inr rfl, rfl⟩
set_option maxRecDepth 100000 in
theorem lk179_92 : xAt kT179 92 (.putfield 94) 95 := ⟨3, rfl, Or.inr rfl, rfl⟩
set_option maxRecDepth 100000 in
theorem lk179_95 : xAt kT179 95 (.aload_n 0) 96 := ⟨1, rfl, Or.inr rfl, rfl⟩
set_option maxRecDepth 100000 in
theorem lk179_96 : xAt kT179 96 (.getfield 81) 99 := ⟨3, rfl, Or.inr rfl, rfl⟩
set_option maxRecDepth 100000 in
theorem lk179_99 : xAt kT179 99 (.aload_n 0) 100 := ⟨1, rfl, Or.inr rfl, rfl⟩
set_option maxRecDepth 100000 in
theorem lk179_100 : xAt kT179 100 (.getfield 56) 103 := ⟨3, rfl, Or.inr rfl, rfl⟩
set_option maxRecDepth 100000 in
theorem lk179_103 : xAt kT179 103 (.aload_n 0) 104 := ⟨1, rfl, Or.inr rfl, rfl⟩
set_option maxRecDepth 100000 in
theorem lk179_104 : xAt kT179 104 (.getfield 238) 107 := ⟨3, rfl, Or.inr rfl, rfl⟩
set_option maxRecDepth 100000 in
theorem lk179_107 : xAt kT179 107 (.invokevirtual 282) 110 := ⟨3, rfl, Or.inr rfl, rfl⟩
set_option maxRecDepth 100000 in
theorem lk179_110 : xAt kT179 110 (.aload_n 0) 111 := ⟨1, rfl, Or.inr rfl, rfl⟩
set_option maxRecDepth 100000 in
theorem lk179_111 : xAt kT179 111 (.invokevirtual 323) 114 := ⟨3, rfl, Or.inr rfl, rfl⟩
set_option maxRecDepth 100000 in
theorem lk179_114 : xAt kT179 114 (.aload_n 0) 115 := ⟨1, rfl, Or.inr rfl, rfl⟩
set_option maxRecDepth 100000 in
theorem lk179_115 : xAt kT179 115 (.iconst (-1)) 116 := ⟨1, rfl, Or.inr rfl, rfl⟩
set_option maxRecDepth 100000 in
theorem lk179_116 : xAt kT179 116 (.putfield 53) 119 := ⟨3, rfl, Or.inr rfl, rfl⟩
set_option maxRecDepth 100000 in
theorem lk179_119 : xAt kT179 119 (.aload_n 0) 120 := ⟨1, rfl, Or.inr rfl, rfl⟩
set_option maxRecDepth 100000 in
theorem lk179_120 : xAt kT179 120 (.iconst 0) 121 := ⟨1, rfl, Or.inr rfl, rfl⟩
set_option maxRecDepth 100000 in
theorem lk179_121 : xAt kT179 121 (.putfield 238) 124 := ⟨3, rfl, Or.inr rfl, rfl⟩
set_option maxRecDepth 100000 in
theorem lk179_124 : xAt kT179 124 (.return_) 125 := ⟨1, rfl, Or.inr rfl, rfl⟩
set_option maxRecDepth 100000 in
theorem lk175_0 : xAt kT175 0 (.aload_n 1) 1 := ⟨1, rfl, Or.inr rfl, rfl⟩
set_option maxRecDepth 100000 in
theorem lk175_1 : xAt kT175 1 (.getfield 189) 4 := ⟨3, rfl, Or.inr rfl, rfl⟩
set_option maxRecDepth 100000 in
theorem lk175_4 : xAt kT175 4 (.istore_n 2) 5 := ⟨1, rfl, Or.inr rfl, rfl⟩
set_option maxRecDepth 100000 in
theorem lk175_5 : xAt kT175 5 (.aload_n 1) 6 := ⟨1, rfl, Or.inr rfl, rfl⟩
set_option maxRecDepth 100000 in
theorem lk175_6 : xAt kT175 6 (.getfield 342) 9 := ⟨3, rfl, Or.inr rfl, rfl⟩
set_option maxRecDepth 100000 in
theorem lk175_9 : xAt kT175 9 (.aload_n 0) 10 := ⟨1, rfl, Or.inr rfl, rfl⟩
set_option maxRecDepth 100000 in
theorem lk175_10 : xAt kT175 10 (.getfield 88) 13 := ⟨3, rfl, Or.inr rfl, rfl⟩
set_option maxRecDepth 100000 in
theorem lk175_13 : xAt kT175 13 (.if_icmp .ge 15) 16 := ⟨3, rfl, Or.inr rfl, rfl⟩
set_option maxRecDepth 100000 in
theorem lk175_16 : xAt kT175 16 (.aload_n 0) 17 := ⟨1, rfl, Or.inr rfl, rfl⟩
set_option maxRecDepth 100000 in
theorem lk175_17 : xAt kT175 17 (.aload_n 1) 18 := ⟨1, rfl, Or.inr rfl, rfl⟩
set_option maxRecDepth 100000 in
theorem lk175_18 : xAt kT175 18 (.getfield 181) 21 := ⟨3, rfl, Or.inr rfl, rfl⟩
set_option maxRecDepth 100000 in
theorem lk175_21 : xAt kT175 21 (.iload_n 2) 22 := ⟨1, rfl, Or.inr rfl, rfl⟩
set_option maxRecDepth 100000 in
theorem lk175_22 : xAt kT175 22 (.iconst 0) 23 := ⟨1, rfl, Or.inr rfl, rfl⟩
set_option maxRecDepth 100000 in
theorem lk175_23 : xAt kT175 23 (.iconst 0) 24 := ⟨1, rfl, Or.inr rfl, rfl⟩
set_option maxRecDepth 100000 in
theorem lk175_24 : xAt kT175 24 (.invokevirtual 516) 27 := ⟨3, rfl, Or.inr rfl, rfl⟩
set_option maxRecDepth 100000 in
theorem lk175_27 : xAt kT175 27 (.return_) 28 := ⟨1, rfl, Or.inr rfl, rfl⟩
set_option maxRecDepth 100000 in
theorem lk175_28 : xAt kT175 28 (.aload_n 0) 29 := ⟨1, rfl, Or.inr rfl, rfl⟩
set_option maxRecDepth 100000 in
theorem lk175_29 : xAt kT175 29 (.aload_n 1) 30 := ⟨1, rfl, Or.inr rfl, rfl⟩
set_option maxRecDepth 100000 in
theorem lk175_30 : xAt kT175 30 (.invokevirtual 506) 33 := ⟨3, rfl, Or.inr rfl, rfl⟩
set_option maxRecDepth 100000 in
theorem lk175_33 : xAt kT175 33 (.ifCond .ne 4) 36 := ⟨3, rfl, Or.inr rfl, rfl⟩
set_option maxRecDepth 100000 in
theorem lk175_36 : xAt kT175 36 (.return_) 37 := ⟨1, rfl, Or.inr rfl, rfl⟩
set_option maxRecDepth 100000 in
theorem lk175_37 : xAt kT175 37 (.iload_n 2) 38 := ⟨1, rfl, Or.inr rfl, rfl⟩
set_option maxRecDepth 100000 in
theorem lk175_38 : xAt kT175 38 (.aload_n 0) 39 := ⟨1, rfl, Or.inr rfl, rfl⟩
set_option maxRecDepth 100000 in
theorem lk175_39 : xAt kT175 39 (.getfield 72) 42 := ⟨3, rfl, Or.inr rfl, rfl⟩
set_option maxRecDepth 100000 in
theorem lk175_42 : xAt kT175 42 (.getfield 91) 45 := ⟨3, rfl, Or.inr rfl, rfl⟩
set_option maxRecDepth 100000 in
theorem lk175_45 : xAt kT175 45 (.if_icmp .gt 21) 48 := ⟨3, rfl, Or.inr rfl, rfl⟩
set_option maxRecDepth 100000 in
theorem lk175_48 : xAt kT175 48 (.aload_n 0) 49 := ⟨1, rfl, Or.inr rfl, rfl⟩
set_option maxRecDepth 100000 in
theorem lk175_49 : xAt kT175 49 (.aload_n 1) 50 := ⟨1, rfl, Or.inr rfl, rfl⟩
set_option maxRecDepth 100000 in
theorem lk175_50 : xAt kT175 50 (.getfield 181) 53 := ⟨3, rfl, Or.inr rfl, rfl⟩
set_option maxRecDepth 100000 in
theorem lk175_53 : xAt kT175 53 (.iload_n 2) 54 := ⟨1, rfl, Or.inr rfl, rfl⟩
set_option maxRecDepth 100000 in
theorem lk175_54 : xAt kT175 54 (.aload_n 1) 55 := ⟨1, rfl, Or.inr rfl, rfl⟩
set_option maxRecDepth 100000 in
theorem lk175_55 : xAt kT175 55 (.getfield 365) 58 := ⟨3, rfl, Or.inr rfl, rfl⟩
set_option maxRecDepth 100000 in
theorem lk175_58 : xAt kT175 58 (.aload_n 1) 59 := ⟨1, rfl, Or.inr rfl, rfl⟩
set_option maxRecDepth 100000 in
theorem lk175_59 : xAt kT175 59 (.getfield 192) 62 := ⟨3, rfl, Or.inr rfl, rfl⟩
set_option maxRecDepth 100000 in
theorem lk175_62 : xAt kT175 62 (.invokevirtual 516) 65 := ⟨3, rfl, Or.inr rfl, rfl⟩
set_option maxRecDepth 100000 in
theorem lk175_65 : xAt kT175 65 (.return_) 66 := ⟨1, rfl, Or.inr rfl, rfl⟩
set_option maxRecDepth 100000 in
theorem lk175_66 : xAt kT175 66 (.aload_n 1) 67 := ⟨1, rfl, Or.inr rfl, rfl⟩
set_option maxRecDepth 100000 in
theorem lk175_67 : xAt kT175 67 (.getfield 423) 70 := ⟨3, rfl, Or.inr rfl, rfl⟩
set_option maxRecDepth 100000 in
theorem lk175_70 : xAt kT175 70 (.ifCond .ne 13) 73 := ⟨3, rfl, Or.inr rfl, rfl⟩
set_option maxRecDepth 100000 in
theorem lk175_73 : xAt kT175 73 (.aload_n 0) 74 := ⟨1, rfl, Or.inr rfl, rfl⟩
set_option maxRecDepth 100000 in
theorem lk175_74 : xAt kT175 74 (.iload_n 2) 75 := ⟨1, rfl, Or.inr rfl, rfl⟩
set_option maxRecDepth 100000 in
theorem lk175_75 : xAt kT175 75 (.putfield 53) 78 := ⟨3, rfl, Or.inr rfl, rfl⟩
set_option maxRecDepth 100000 in
theorem lk175_78 : xAt kT175 78 (.aload_n 0) 79 := ⟨1, rfl, Or.inr rfl, rfl⟩
set_option maxRecDepth 100000 in
theorem lk175_79 : xAt kT175 79 (.iconst 0) 80 := ⟨1, rfl, Or.inr rfl, rfl⟩
set_option maxRecDepth 100000 in
theorem lk175_80 : xAt kT175 80 (.putfield 238) 83 := ⟨3, rfl, Or.inr rfl, rfl⟩
set_option maxRecDepth 100000 in
theorem lk175_83 : xAt kT175 83 (.aload_n 0) 84 := ⟨1, rfl, Or.inr rfl, rfl⟩
set_option maxRecDepth 100000 in
theorem lk175_84 : xAt kT175 84 (.getfield 53) 87 := ⟨3, rfl, Or.inr rfl, rfl⟩
set_option maxRecDepth 100000 in
theorem lk175_87 : xAt kT175 87 (.iload_n 2) 88 := ⟨1, rfl, Or.inr rfl, rfl⟩
set_option maxRecDepth 100000 in
theorem lk175_88 : xAt kT175 88 (.if_icmp .ne 54) 91 := ⟨3, rfl, Or.inr rfl, rfl⟩
set_option maxRecDepth 100000 in
theorem lk175_91 : xAt kT175 91 (.aload_n 1) 92 := ⟨1, rfl, Or.inr rfl, rfl⟩
set_option maxRecDepth 100000 in
theorem lk175_92 : xAt kT175 92 (.getfield 423) 95 := ⟨3, rfl, Or.inr rfl, rfl⟩
set_option maxRecDepth 100000 in
theorem lk175_95 : xAt kT175 95 (.aload_n 0) 96 := ⟨1, rfl, Or.inr rfl, rfl⟩
set_option maxRecDepth 100000 in
theorem lk175_96 : xAt kT175 96 (.getfield 238) 99 := ⟨3, rfl, Or.inr rfl, rfl⟩
set_option maxRecDepth 100000 in
theorem lk175_99 : xAt kT175 99 (.if_icmp .ne 43) 102 := ⟨3, rfl, Or.inr rfl, rfl⟩
set_option maxRecDepth 100000 in
theorem lk175_102 : xAt kT175 102 (.aload_n 0) 103 := ⟨1, rfl, Or.inr rfl, rfl⟩
set_option maxRecDepth 100000 in
theorem lk175_103 : xAt kT175 103 (.aload_n 1) 104 := ⟨1, rfl, Or.inr rfl, rfl⟩
set_option maxRecDepth 100000 in
theorem lk175_104 : xAt kT175 104 (.invokevirtual 519) 107 := ⟨3, rfl, Or.inr rfl, rfl⟩
set_option maxRecDepth 100000 in
theorem lk175_107 : xAt kT175 107 (.aload_n 0) 108 := ⟨1, rfl, Or.inr rfl, rfl⟩
set_option maxRecDepth 100000 in
theorem lk175_108 : xAt kT175 108 (.getfield 238) 111 := ⟨3, rfl, Or.inr rfl, rfl⟩
set_option maxRecDepth 100000 in
theorem lk175_111 : xAt kT175 111 (.istore_n 3) 112 := ⟨1, rfl, Or.inr rfl, rfl⟩
set_option maxRecDepth 100000 in
theorem lk175_112 : xAt kT175 112 (.iload_n 3) 113 := ⟨1, rfl, Or.inr rfl, rfl⟩
set_option maxRecDepth 100000 in
theorem lk175_113 : xAt kT175 113 (.aload_n 1) 114 := ⟨1, rfl, Or.inr rfl, rfl⟩
set_option maxRecDepth 100000 in
theorem lk175_114 : xAt kT175 114 (.getfield 365) 117 := ⟨3, rfl, Or.inr rfl, rfl⟩
set_option maxRecDepth 100000 in
theorem lk175_117 : xAt kT175 117 (.if_icmp .lt 8) 120 := ⟨3, rfl, Or.inr rfl, rfl⟩
set_option maxRecDepth 100000 in
theorem lk175_120 : xAt kT175 120 (.aload_n 0) 121 := ⟨1, rfl, Or.inr rfl, rfl⟩
set_option maxRecDepth 100000 in
theorem lk175_121 : xAt kT175 121 (.aload_n 1) 122 := ⟨1, rfl, Or.inr rfl, rfl⟩
set_option maxRecDepth 100000 in
theorem lk175_122 : xAt kT175 122 (.invokevirtual 522) 125 := ⟨3, rfl, Or.inr rfl, rfl⟩
set_option maxRecDepth 100000 in
theorem lk175_125 : xAt kT175 125 (.aload_n 0) 126 := ⟨1, rfl, Or.inr rfl, rfl⟩
set_option maxRecDepth 100000 in
theorem lk175_126 : xAt kT175 126 (.aload_n 1) 127 := ⟨1, rfl, Or.inr rfl, rfl⟩
set_option maxRecDepth 100000 in
theorem lk175_127 : xAt kT175 127 (.getfield 181) 130 := ⟨3, rfl, Or.inr rfl, rfl⟩
set_option maxRecDepth 100000 in
theorem lk175_130 : xAt kT175 130 (.iload_n 2) 131 := ⟨1, rfl, Or.inr rfl, rfl⟩
set_option maxRecDepth 100000 in
theorem lk175_131 : xAt kT175 131 (.iload_n 3) 132 := ⟨1, rfl, Or.inr rfl, rfl⟩
set_option maxRecDepth 100000 in
theorem lk175_132 : xAt kT175 132 (.aload_n 1) 133 := ⟨1, rfl, Or.inr rfl, rfl⟩
set_option maxRecDepth 100000 in
theorem lk175_133 : xAt kT175 133 (.getfield 192) 136 := ⟨3, rfl, Or.inr rfl, rfl⟩
set_option maxRecDepth 100000 in
theorem lk175_136 : xAt kT175 136 (.invokevirtual 516) 139 := ⟨3, rfl, Or.inr rfl, rfl⟩
set_option maxRecDepth 100000 in
theorem lk175_139 : xAt kT175 139 (.goto 32) 142 := ⟨3, rfl, Or.inr rfl, rfl⟩
set_option maxRecDepth 100000 in
theorem lk175_142 : xAt kT175 142 (.aload_n 0) 143 := ⟨1, rfl, Or.inr rfl, rfl⟩
set_option maxRecDepth 100000 in
theorem lk175_143 : xAt kT175 143 (.aload_n 1) 144 := ⟨1, rfl, Or.inr rfl, rfl⟩
set_option maxRecDepth 100000 in
theorem lk175_144 : xAt kT175 144 (.getfield 181) 147 := ⟨3, rfl, Or.inr rfl, rfl⟩
set_option maxRecDepth 100000 in
theorem lk175_147 : xAt kT175 147 (.iload_n 2) 148 := ⟨1, rfl, Or.inr rfl, rfl⟩
set_option maxRecDepth 100000 in
theorem lk175_148 : xAt kT175 148 (.aload_n 0) 149 := ⟨1, rfl, Or.inr rfl, rfl⟩
set_option maxRecDepth 100000 in
theorem lk175_149 : xAt kT175 149 (.getfield 53) 152 := ⟨3, rfl, Or.inr rfl, rfl⟩
set_option maxRecDepth 100000 in
theorem lk175_152 : xAt kT175 152 (.iload_n 2) 153 := ⟨1, rfl, Or.inr rfl, rfl⟩
set_option maxRecDepth 100000 in
theorem lk175_153 : xAt kT175 153 (.if_icmp .ne 10) 156 := ⟨3, rfl, Or.inr rfl, rfl⟩
set_option maxRecDepth 100000 in
theorem lk175_156 : xAt kT175 156 (.aload_n 0) 157 := ⟨1, rfl, Or.inr rfl, rfl⟩
set_option maxRecDepth 100000 in
theorem lk175_157 : xAt kT175 157 (.getfield 238) 160 := ⟨3, rfl, Or.inr rfl, rfl⟩
set_option maxRecDepth 100000 in
theorem lk175_160 : xAt kT175 160 (.goto 4) 163 := ⟨3, rfl, Or.inr rfl, rfl⟩
set_option maxRecDepth 100000 in
theorem lk175_163 : xAt kT175 163 (.iconst 0) 164 := ⟨1, rfl, Or.inr rfl, rfl⟩
set_option maxRecDepth 100000 in
theorem lk175_164 : xAt kT175 164 (.aload_n 1) 165 := ⟨1, rfl, Or.inr rfl, rfl⟩
set_option maxRecDepth 100000 in
theorem lk175_165 : xAt kT175 165 (.getfield 192) 168 := ⟨3, rfl, Or.inr rfl, rfl⟩
set_option maxRecDepth 100000 in
theorem lk175_168 : xAt kT175 168 (.invokevirtual 516) 171 := ⟨3, rfl, Or.inr rfl, rfl⟩
set_option maxRecDepth 100000 in
theorem lk175_171 : xAt kT175 171 (.return_) 172 := ⟨1, rfl, Or.inr rfl, rfl⟩
set_option maxRecDepth 100000 in
theorem lk169_0 : xAt kT169 0 (.aload_n 0) 1 := ⟨1, rfl, Or.inr rfl, rfl⟩
set_option maxRecDepth 100000 in
theorem lk169_1 : xAt kT169 1 (.aload_n 1) 2 := ⟨1, rfl, Or.inr rfl, rfl⟩
set_option maxRecDepth 100000 in
theorem lk169_2 : xAt kT169 2 (.invokevirtual 539) 5 := ⟨3, rfl, Or.inr rfl, rfl⟩
set_option maxRecDepth 100000 in
theorem lk169_5 : xAt kT169 5 (.ifCond .ne 4) 8 := ⟨3, rfl, Or.inr rfl, rfl⟩
set_option maxRecDepth 100000 in
theorem lk169_8 : xAt kT169 8 (.return_) 9 := ⟨1, rfl, Or.inr rfl, rfl⟩
set_option maxRecDepth 100000 in
theorem lk169_9 : xAt kT169 9 (.aload_n 1) 10 := ⟨1, rfl, Or.inr rfl, rfl⟩
set_option maxRecDepth 100000 in
theorem lk169_10 : xAt kT169 10 (.getfield 181) 13 := ⟨3, rfl, Or.inr rfl, rfl⟩
set_option maxRecDepth 100000 in
theorem lk169_13 : xAt kT169 13 (.istore_n 2) 14 := ⟨1, rfl, Or.inr rfl, rfl⟩
set_option maxRecDepth 100000 in
theorem lk169_14 : xAt kT169 14 (.aload_n 1) 15 := ⟨1, rfl, Or.inr rfl, rfl⟩
set_option maxRecDepth 100000 in
theorem lk169_15 : xAt kT169 15 (.getfield 343) 18 := ⟨3, rfl, Or.inr rfl, rfl⟩
set_option maxRecDepth 100000 in
theorem lk169_18 : xAt kT169 18 (.iconst 1) 19 := ⟨1, rfl, Or.inr rfl, rfl⟩
set_option maxRecDepth 100000 in
theorem lk169_19 : xAt kT169 19 (.if_icmp .ne 101) 22 := ⟨3, rfl, Or.inr rfl, rfl⟩
set_option maxRecDepth 100000 in
theorem lk169_22 : xAt kT169 22 (.aload_n 1) 23 := ⟨1, rfl, Or.inr rfl, rfl⟩
set_option maxRecDepth 100000 in
theorem lk169_23 : xAt kT169 23 (.getfield 189) 26 := ⟨3, rfl, Or.inr rfl, rfl⟩
set_option maxRecDepth 100000 in
theorem lk169_26 : xAt kT169 26 (.aload_n 0) 27 := ⟨1, rfl, Or.inr rfl, rfl⟩
set_option maxRecDepth 100000 in
theorem lk169_27 : xAt kT169 27 (.getfield 72) 30 := ⟨3, rfl, Or.inr rfl, rfl⟩
set_option maxRecDepth 100000 in
theorem lk169_30 : xAt kT169 30 (.getfield 103) 33 := ⟨3, rfl, Or.inr rfl, rfl⟩
set_option maxRecDepth 100000 in
theorem lk169_33 : xAt kT169 33 (.invokestatic 397) 36 := ⟨3, rfl, Or.inr rfl, rfl⟩
set_option maxRecDepth 100000 in
theorem lk169_36 : xAt kT169 36 (.istore_n 3) 37 := ⟨1, rfl, Or.inr rfl, rfl⟩
set_option maxRecDepth 100000 in
theorem lk169_37 : xAt kT169 37 (.aload_n 0) 38 := ⟨1, rfl, Or.inr rfl, rfl⟩
set_option maxRecDepth 100000 in
theorem lk169_38 : xAt kT169 38 (.getfield 21) 41 := ⟨3, rfl, Or.inr rfl, rfl⟩
set_option maxRecDepth 100000 in
theorem lk169_41 : xAt kT169 41 (.getfield 459) 44 := ⟨3, rfl, Or.inr rfl, rfl⟩
set_option maxRecDepth 100000 in
theorem lk169_44 : xAt kT169 44 (.iload_n 2) 45 := ⟨1, rfl, Or.inr rfl, rfl⟩
set_option maxRecDepth 100000 in
theorem lk169_45 : xAt kT169 45 (.aload_n 0) 46 := ⟨1, rfl, Or.inr rfl, rfl⟩
set_option maxRecDepth 100000 in
theorem lk169_46 : xAt kT169 46 (.getfield 21) 49 := ⟨3, rfl, Or.inr rfl, rfl⟩
set_option maxRecDepth 100000 in
theorem lk169_49 : xAt kT169 49 (.getfield 459) 52 := ⟨3, rfl, Or.inr rfl, rfl⟩
set_option maxRecDepth 100000 in
theorem lk169_52 : xAt kT169 52 (.iload_n 2) 53 := ⟨1, rfl, Or.inr rfl, rfl⟩
set_option maxRecDepth 100000 in
theorem lk169_53 : xAt kT169 53 (.iaload) 54 := ⟨1, rfl, Or.inr rfl, rfl⟩
set_option maxRecDepth 100000 in
theorem lk169_54 : xAt kT169 54 (.iload_n 3) 55 := ⟨1, rfl, Or.inr rfl, rfl⟩
set_option maxRecDepth 100000 in
theorem lk169_55 : xAt kT169 55 (.invokestatic 293) 58 := ⟨3, rfl, Or.inr rfl, rfl⟩
set_option maxRecDepth 100000 in
theorem lk169_58 : xAt kT169 58 (.iastore) 59 := ⟨1, rfl, Or.inr rfl, rfl⟩
set_option maxRecDepth 100000 in
theorem lk169_59 : xAt kT169 59 (.aload_n 0) 60 := ⟨1, rfl, Or.inr rfl, rfl⟩
set_option maxRecDepth 100000 in
theorem lk169_60 : xAt kT169 60 (.getfield 21) 63 := ⟨3, rfl, Or.inr rfl, rfl⟩
set_option maxRecDepth 100000 in
theorem lk169_63 : xAt kT169 63 (.getfield 393) 66 := ⟨3, rfl, Or.inr rfl, rfl⟩
set_option maxRecDepth 100000 in
theorem lk169_66 : xAt kT169 66 (.iload_n 2) 67 := ⟨1, rfl, Or.inr rfl, rfl⟩
set_option maxRecDepth 100000 in
theorem lk169_67 : xAt kT169 67 (.iconst 0) 68 := ⟨1, rfl, Or.inr rfl, rfl⟩
set_option maxRecDepth 100000 in
theorem lk169_68 : xAt kT169 68 (.bastore) 69 := ⟨1, rfl, Or.inr rfl, rfl⟩
set_option maxRecDepth 100000 in
theorem lk169_69 : xAt kT169 69 (.aload_n 0) 70 := ⟨1, rfl, Or.inr rfl, rfl⟩
set_option maxRecDepth 100000 in
theorem lk169_70 : xAt kT169 70 (.getfield 21) 73 := ⟨3, rfl, Or.inr rfl, rfl⟩
set_option maxRecDepth 100000 in
theorem lk169_73 : xAt kT169 73 (.getfield 383) 76 := ⟨3, rfl, Or.inr rfl, rfl⟩
set_option maxRecDepth 100000 in
theorem lk169_76 : xAt kT169 76 (.iload_n 2) 77 := ⟨1, rfl, Or.inr rfl, rfl⟩
set_option maxRecDepth 100000 in
theorem lk169_77 : xAt kT169 77 (.iconst 0) 78 := ⟨1, rfl, Or.inr rfl, rfl⟩
set_option maxRecDepth 100000 in
theorem lk169_78 : xAt kT169 78 (.aload_n 0) 79 := ⟨1, rfl, Or.inr rfl, rfl⟩
set_option maxRecDepth 100000 in
theorem lk169_79 : xAt kT169 79 (.getfield 21) 82 := ⟨3, rfl, Or.inr rfl, rfl⟩
set_option maxRecDepth 100000 in
theorem lk169_82 : xAt kT169 82 (.getfield 383) 85 := ⟨3, rfl, Or.inr rfl, rfl⟩
set_option maxRecDepth 100000 in
theorem lk169_85 : xAt kT169 85 (.iload_n 2) 86 := ⟨1, rfl, Or.inr rfl, rfl⟩
set_option maxRecDepth 100000 in
theorem lk169_86 : xAt kT169 86 (.iaload) 87 := ⟨1, rfl, Or.inr rfl, rfl⟩
set_option maxRecDepth 100000 in
theorem lk169_87 : xAt kT169 87 (.iconst 1) 88 := ⟨1, rfl, Or.inr rfl, rfl⟩
set_option maxRecDepth 100000 in
theorem lk169_88 : xAt kT169 88 (.isub) 89 := ⟨1, rfl, Or.inr rfl, rfl⟩
set_option maxRecDepth 100000 in
theorem lk169_89 : xAt kT169 89 (.invokestatic 293) 92 := ⟨3, rfl, Or.inr rfl, rfl⟩
set_option maxRecDepth 100000 in
theorem lk169_92 : xAt kT169 92 (.iastore) 93 := ⟨1, rfl, Or.inr rfl, rfl⟩
set_option maxRecDepth 100000 in
theorem lk169_93 : xAt kT169 93 (.aload_n 0) 94 := ⟨1, rfl, Or.inr rfl, rfl⟩
set_option maxRecDepth 100000 in
theorem lk169_94 : xAt kT169 94 (.getfield 21) 97 := ⟨3, rfl, Or.inr rfl, rfl⟩
set_option maxRecDepth 100000 in
theorem lk169_97 : xAt kT169 97 (.getfield 380) 100 := ⟨3, rfl, Or.inr rfl, rfl⟩
set_option maxRecDepth 100000 in
theorem lk169_100 : xAt kT169 100 (.iload_n 2) 101 := ⟨1, rfl, Or.inr rfl, rfl⟩
set_option maxRecDepth 100000 in
theorem lk169_101 : xAt kT169 101 (.aload_n 0) 102 := ⟨1, rfl, Or.inr rfl, rfl⟩
set_option maxRecDepth 100000 in
theorem lk169_102 : xAt kT169 102 (.getfield 21) 105 := ⟨3, rfl, Or.inr rfl, rfl⟩
set_option maxRecDepth 100000 in
theorem lk169_105 : xAt kT169 105 (.getfield 380) 108 := ⟨3, rfl, Or.inr rfl, rfl⟩
set_option maxRecDepth 100000 in
theorem lk169_108 : xAt kT169 108 (.iload_n 2) 109 := ⟨1, rfl, Or.inr rfl, rfl⟩
set_option maxRecDepth 100000 in
theorem lk169_109 : xAt kT169 109 (.iaload) 110 := ⟨1, rfl, Or.inr rfl, rfl⟩
set_option maxRecDepth 100000 in
theorem lk169_110 : xAt kT169 110 (.iload_n 3) 111 := ⟨1, rfl, Or.inr rfl, rfl⟩
set_option maxRecDepth 100000 in
theorem lk169_111 : xAt kT169 111 (.iconst 1) 112 := ⟨1, rfl, Or.inr rfl, rfl⟩
set_option maxRecDepth 100000 in
theorem lk169_112 : xAt kT169 112 (.iadd) 113 := ⟨1, rfl, Or.inr rfl, rfl⟩
set_option maxRecDepth 100000 in
theorem lk169_113 : xAt kT169 113 (.invokestatic 293) 116 := ⟨3, rfl, Or.inr rfl, rfl⟩
set_option maxRecDepth 100000 in
theorem lk169_116 : xAt kT169 116 (.iastore) 117 := ⟨1, rfl, Or.inr rfl, rfl⟩
set_option maxRecDepth 100000 in
theorem lk169_117 : xAt kT169 117 (.goto 62) 120 := ⟨3, rfl, Or.inr rfl, rfl⟩
set_option maxRecDepth 100000 in
theorem lk169_120 : xAt kT169 120 (.aload_n 0) 121 := ⟨1, rfl, Or.inr rfl, rfl⟩
set_option maxRecDepth 100000 in
theorem lk169_121 : xAt kT169 121 (.getfield 21) 124 := ⟨3, rfl, Or.inr rfl, rfl⟩
set_option maxRecDepth 100000 in
theorem lk169_124 : xAt kT169 124 (.getfield 383) 127 := ⟨3, rfl, Or.inr rfl, rfl⟩
set_option maxRecDepth 100000 in
theorem lk169_127 : xAt kT169 127 (.iload_n 2) 128 := ⟨1, rfl, Or.inr rfl, rfl⟩
set_option maxRecDepth 100000 in
theorem lk169_128 : xAt kT169 128 (.iconst 0) 129 := ⟨1, rfl, Or.inr rfl, rfl⟩
set_option maxRecDepth 100000 in
theorem lk169_129 : xAt kT169 129 (.iastore) 130 := ⟨1, rfl, Or.inr rfl, rfl⟩
set_option maxRecDepth 100000 in
theorem lk169_130 : xAt kT169 130 (.aload_n 0) 131 := ⟨1, rfl, Or.inr rfl, rfl⟩
set_option maxRecDepth 100000 in
theorem lk169_131 : xAt kT169 131 (.getfield 21) 134 := ⟨3, rfl, Or.inr rfl, rfl⟩
set_option maxRecDepth 100000 in
theorem lk169_134 : xAt kT169 134 (.getfield 393) 137 := ⟨3, rfl, Or.inr rfl, rfl⟩
set_option maxRecDepth 100000 in
theorem lk169_137 : xAt kT169 137 (.iload_n 2) 138 := ⟨1, rfl, Or.inr rfl, rfl⟩
set_option maxRecDepth 100000 in
theorem lk169_138 : xAt kT169 138 (.iconst 1) 139 := ⟨1, rfl, Or.inr rfl, rfl⟩
set_option maxRecDepth 100000 in
theorem lk169_139 : xAt kT169 139 (.bastore) 140 := ⟨1, rfl, Or.inr rfl, rfl⟩
set_option maxRecDepth 100000 in
theorem lk169_140 : xAt kT169 140 (.aload_n 0) 141 := ⟨1, rfl, Or.inr rfl, rfl⟩
set_option maxRecDepth 100000 in
theorem lk169_141 : xAt kT169 141 (.getfield 21) 144 := ⟨3, rfl, Or.inr rfl, rfl⟩
set_option maxRecDepth 100000 in
theorem lk169_144 : xAt kT169 144 (.getfield 380) 147 := ⟨3, rfl, Or.inr rfl, rfl⟩
set_option maxRecDepth 100000 in
theorem lk169_147 : xAt kT169 147 (.iload_n 2) 148 := ⟨1, rfl, Or.inr rfl, rfl⟩
set_option maxRecDepth 100000 in
theorem lk169_148 : xAt kT169 148 (.aload_n 1) 149 := ⟨1, rfl, Or.inr rfl, rfl⟩
set_option maxRecDepth 100000 in
theorem lk169_149 : xAt kT169 149 (.getfield 189) 152 := ⟨3, rfl, Or.inr rfl, rfl⟩
set_option maxRecDepth 100000 in
theorem lk169_152 : xAt kT169 152 (.aload_n 0) 153 := ⟨1, rfl, Or.inr rfl, rfl⟩
set_option maxRecDepth 100000 in
theorem lk169_153 : xAt kT169 153 (.getfield 21) 156 := ⟨3, rfl, Or.inr rfl, rfl⟩
set_option maxRecDepth 100000 in
theorem lk169_156 : xAt kT169 156 (.getfield 459) 159 := ⟨3, rfl, Or.inr rfl, rfl⟩
set_option maxRecDepth 100000 in
theorem lk169_159 : xAt kT169 159 (.iload_n 2) 160 := ⟨1, rfl, Or.inr rfl, rfl⟩
set_option maxRecDepth 100000 in
theorem lk169_160 : xAt kT169 160 (.iaload) 161 := ⟨1, rfl, Or.inr rfl, rfl⟩
set_option maxRecDepth 100000 in
theorem lk169_161 : xAt kT169 161 (.iconst 1) 162 := ⟨1, rfl, Or.inr rfl, rfl⟩
set_option maxRecDepth 100000 in
theorem lk169_162 : xAt kT169 162 (.iadd) 163 := ⟨1, rfl, Or.inr rfl, rfl⟩
set_option maxRecDepth 100000 in
theorem lk169_163 : xAt kT169 163 (.invokestatic 293) 166 := ⟨3, rfl, Or.inr rfl, rfl⟩
set_option maxRecDepth 100000 in
theorem lk169_166 : xAt kT169 166 (.aload_n 0) 167 := ⟨1, rfl, Or.inr rfl, rfl⟩
set_option maxRecDepth 100000 in
theorem lk169_167 : xAt kT169 167 (.getfield 72) 170 := ⟨3, rfl, Or.inr rfl, rfl⟩
set_option maxRecDepth 100000 in
theorem lk169_170 : xAt kT169 170 (.getfield 103) 173 := ⟨3, rfl, Or.inr rfl, rfl⟩
set_option maxRecDepth 100000 in
theorem lk169_173 : xAt kT169 173 (.iconst 1) 174 := ⟨1, rfl, Or.inr rfl, rfl⟩
set_option maxRecDepth 100000 in
theorem lk169_174 : xAt kT169 174 (.iadd) 175 := ⟨1, rfl, Or.inr rfl, rfl⟩
set_option maxRecDepth 100000 in
theorem lk169_175 : xAt kT169 175 (.invokestatic 397) 178 := ⟨3, rfl, Or.inr rfl, rfl⟩
set_option maxRecDepth 100000 in
theorem lk169_178 : xAt kT169 178 (.iastore) 179 := ⟨1, rfl, Or.inr rfl, rfl⟩
set_option maxRecDepth 100000 in
theorem lk169_179 : xAt kT169 179 (.return_) 180 := ⟨1, rfl, Or.inr rfl, rfl⟩
set_option maxRecDepth 100000 in
theorem lk172_0 : xAt kT172 0 (.aload_n 1) 1 := ⟨1, rfl, Or.inr rfl, rfl⟩
set_option maxRecDepth 100000 in
theorem lk172_1 : xAt kT172 1 (.getfield 189) 4 := ⟨3, rfl, Or.inr rfl, rfl⟩
set_option maxRecDepth 100000 in
theorem lk172_4 : xAt kT172 4 (.istore_n 2) 5 := ⟨1, rfl, Or.inr rfl, rfl⟩
set_option maxRecDepth 100000 in
theorem lk172_5 : xAt kT172 5 (.iconst 0) 6 := ⟨1, rfl, Or.inr rfl, rfl⟩
set_option maxRecDepth 100000 in
theorem lk172_6 : xAt kT172 6 (.aload_n 1) 7 := ⟨1, rfl, Or.inr rfl, rfl⟩
set_option maxRecDepth 100000 in
theorem lk172_7 : xAt kT172 7 (.getfield 346) 10 := ⟨3, rfl, Or.inr rfl, rfl⟩
set_option maxRecDepth 100000 in
theorem lk172_10 : xAt kT172 10 (.aload_n 0) 11 := ⟨1, rfl, Or.inr rfl, rfl⟩
set_option maxRecDepth 100000 in
theorem lk172_11 : xAt kT172 11 (.getfield 72) 14 := ⟨3, rfl, Or.inr rfl, rfl⟩
set_option maxRecDepth 100000 in
theorem lk172_14 : xAt kT172 14 (.getfield 100) 17 := ⟨3, rfl, Or.inr rfl, rfl⟩
set_option maxRecDepth 100000 in
theorem lk172_17 : xAt kT172 17 (.sipush 250) 20 := ⟨3, rfl, Or.inr rfl, rfl⟩
set_option maxRecDepth 100000 in
theorem lk172_20 : xAt kT172 20 (.iadd) 21 := ⟨1, rfl, Or.inr rfl, rfl⟩
set_option maxRecDepth 100000 in
theorem lk172_21 : xAt kT172 21 (.iload_n 2) 22 := ⟨1, rfl, Or.inr rfl, rfl⟩
set_option maxRecDepth 100000 in
theorem lk172_22 : xAt kT172 22 (.isub) 23 := ⟨1, rfl, Or.inr rfl, rfl⟩
set_option maxRecDepth 100000 in
theorem lk172_23 : xAt kT172 23 (.invokestatic 397) 26 := ⟨3, rfl, Or.inr rfl, rfl⟩
set_option maxRecDepth 100000 in
theorem lk172_26 : xAt kT172 26 (.invokestatic 293) 29 := ⟨3, rfl, Or.inr rfl, rfl⟩
set_option maxRecDepth 100000 in
theorem lk172_29 : xAt kT172 29 (.istore_n 3) 30 := ⟨1, rfl, Or.inr rfl, rfl⟩
set_option maxRecDepth 100000 in
theorem lk172_30 : xAt kT172 30 (.iconst 0) 31 := ⟨1, rfl, Or.inr rfl, rfl⟩
set_option maxRecDepth 100000 in
theorem lk172_31 : xAt kT172 31 (.istore 4) 33 := ⟨2, rfl, Or.inr rfl, rfl⟩
set_option maxRecDepth 100000 in
theorem lk172_33 : xAt kT172 33 (.iload 4) 35 := ⟨2, rfl, Or.inr rfl, rfl⟩
set_option maxRecDepth 100000 in
theorem lk172_35 : xAt kT172 35 (.iload_n 3) 36 := ⟨1, rfl, Or.inr rfl, rfl⟩
set_option maxRecDepth 100000 in
theorem lk172_36 : xAt kT172 36 (.if_icmp .ge 66) 39 := ⟨3, rfl, Or.inr rfl, rfl⟩
set_option maxRecDepth 100000 in
theorem lk172_39 : xAt kT172 39 (.iload_n 2) 40 := ⟨1, rfl, Or.inr rfl, rfl⟩
set_option maxRecDepth 100000 in
theorem lk172_40 : xAt kT172 40 (.iconst 1) 41 := ⟨1, rfl, Or.inr rfl, rfl⟩
set_option maxRecDepth 100000 in
theorem lk172_41 : xAt kT172 41 (.iadd) 42 := ⟨1, rfl, Or.inr rfl, rfl⟩
set_option maxRecDepth 100000 in
theorem lk172_42 : xAt kT172 42 (.iload 4) 44 := ⟨2, rfl, Or.inr rfl, rfl⟩
set_option maxRecDepth 100000 in
theorem lk172_44 : xAt kT172 44 (.iadd) 45 := ⟨1, rfl, Or.inr rfl, rfl⟩
set_option maxRecDepth 100000 in
theorem lk172_45 : xAt kT172 45 (.istore 5) 47 := ⟨2, rfl, Or.inr rfl, rfl⟩
set_option maxRecDepth 100000 in
theorem lk172_47 : xAt kT172 47 (.iload 5) 49 := ⟨2, rfl, Or.inr rfl, rfl⟩
set_option maxRecDepth 100000 in
theorem lk172_49 : xAt kT172 49 (.aload_n 0) 50 := ⟨1, rfl, Or.inr rfl, rfl⟩
set_option maxRecDepth 100000 in
theorem lk172_50 : xAt kT172 50 (.getfield 72) 53 := ⟨3, rfl, Or.inr rfl, rfl⟩
set_option maxRecDepth 100000 in
theorem lk172_53 : xAt kT172 53 (.getfield 100) 56 := ⟨3, rfl, Or.inr rfl, rfl⟩
set_option maxRecDepth 100000 in
theorem lk172_56 : xAt kT172 56 (.if_icmp .lt 40) 59 := ⟨3, rfl, Or.inr rfl, rfl⟩
set_option maxRecDepth 100000 in
theorem lk172_59 : xAt kT172 59 (.iload 5) 61 := ⟨2, rfl, Or.inr rfl, rfl⟩
set_option maxRecDepth 100000 in
theorem lk172_61 : xAt kT172 61 (.aload_n 0) 62 := ⟨1, rfl, Or.inr rfl, rfl⟩
set_option maxRecDepth 100000 in
theorem lk172_62 : xAt kT172 62 (.getfield 72) 65 := ⟨3, rfl, Or.inr rfl, rfl⟩
set_option maxRecDepth 100000 in
theorem lk172_65 : xAt kT172 65 (.getfield 91) 68 := ⟨3, rfl, Or.inr rfl, rfl⟩
set_option maxRecDepth 100000 in
theorem lk172_68 : xAt kT172 68 (.if_icmp .gt 28) 71 := ⟨3, rfl, Or.inr rfl, rfl⟩
set_option maxRecDepth 100000 in
theorem lk172_71 : xAt kT172 71 (.aload_n 0) 72 := ⟨1, rfl, Or.inr rfl, rfl⟩
set_option maxRecDepth 100000 in
theorem lk172_72 : xAt kT172 72 (.getfield 72) 75 := ⟨3, rfl, Or.inr rfl, rfl⟩
set_option maxRecDepth 100000 in
theorem lk172_75 : xAt kT172 75 (.iload 5) 77 := ⟨2, rfl, Or.inr rfl, rfl⟩
set_option maxRecDepth 100000 in
theorem lk172_77 : xAt kT172 77 (.invokevirtual 311) 80 := ⟨3, rfl, Or.inr rfl, rfl⟩
set_option maxRecDepth 100000 in
theorem lk172_80 : xAt kT172 80 (.aload_n 1) 81 := ⟨1, rfl, Or.inr rfl, rfl⟩
set_option maxRecDepth 100000 in
theorem lk172_81 : xAt kT172 81 (.getfield 409) 84 := ⟨3, rfl, Or.inr rfl, rfl⟩
set_option maxRecDepth 100000 in
theorem lk172_84 : xAt kT172 84 (.iload 4) 86 := ⟨2, rfl, Or.inr rfl, rfl⟩
set_option maxRecDepth 100000 in
theorem lk172_86 : xAt kT172 86 (.bipush 6) 88 := ⟨2, rfl, Or.inr rfl, rfl⟩
set_option maxRecDepth 100000 in
theorem lk172_88 : xAt kT172 88 (.imul) 89 := ⟨1, rfl, Or.inr rfl, rfl⟩
set_option maxRecDepth 100000 in
theorem lk172_89 : xAt kT172 89 (.iconst 0) 90 := ⟨1, rfl, Or.inr rfl, rfl⟩
set_option maxRecDepth 100000 in
theorem lk172_90 : xAt kT172 90 (.iadd) 91 := ⟨1, rfl, Or.inr rfl, rfl⟩
set_option maxRecDepth 100000 in
theorem lk172_91 : xAt kT172 91 (.iaload) 92 := ⟨1, rfl, Or.inr rfl, rfl⟩
set_option maxRecDepth 100000 in
theorem lk172_92 : xAt kT172 92 (.if_icmp .eq 4) 95 := ⟨3, rfl, Or.inr rfl, rfl⟩
set_option maxRecDepth 100000 in
theorem lk172_95 : xAt kT172 95 (.return_) 96 := ⟨1, rfl, Or.inr rfl, rfl⟩
set_option maxRecDepth 100000 in
theorem lk172_96 : xAt kT172 96 (.iinc 4 1) 99 := ⟨3, rfl, Or.inr rfl, rfl⟩
set_option maxRecDepth 100000 in
theorem lk172_99 : xAt kT172 99 (.goto (-66)) 102 := ⟨3, rfl, Or.inr rfl, rfl⟩
set_option maxRecDepth 100000 in
theorem lk172_102 : xAt kT172 102 (.iconst 0) 103 := ⟨1, rfl, Or.inr rfl, rfl⟩
set_option maxRecDepth 100000 in
theorem lk172_103 : xAt kT172 103 (.istore 4) 105 := ⟨2, rfl, Or.inr rfl, rfl⟩
set_option maxRecDepth 100000 in
theorem lk172_105 : xAt kT172 105 (.iload 4) 107 := ⟨2, rfl, Or.inr rfl, rfl⟩
set_option maxRecDepth 100000 in
theorem lk172_107 : xAt kT172 107 (.iload_n 3) 108 := ⟨1, rfl, Or.inr rfl, rfl⟩
set_option maxRecDepth 100000 in
theorem lk172_108 : xAt kT172 108 (.if_icmp .ge 53) 111 := ⟨3, rfl, Or.inr rfl, rfl⟩
set_option maxRecDepth 100000 in
theorem lk172_111 : xAt kT172 111 (.iload_n 2) 112 := ⟨1, rfl, Or.inr rfl, rfl⟩
set_option maxRecDepth 100000 in
theorem lk172_112 : xAt kT172 112 (.iconst 1) 113 := ⟨1, rfl, Or.inr rfl, rfl⟩
set_option maxRecDepth 100000 in
theorem lk172_113 : xAt kT172 113 (.iadd) 114 := ⟨1, rfl, Or.inr rfl, rfl⟩
set_option maxRecDepth 100000 in
theorem lk172_114 : xAt kT172 114 (.iload 4) 116 := ⟨2, rfl, Or.inr rfl, rfl⟩
set_option maxRecDepth 100000 in
theorem lk172_116 : xAt kT172 116 (.iadd) 117 := ⟨1, rfl, Or.inr rfl, rfl⟩
set_option maxRecDepth 100000 in
theorem lk172_117 : xAt kT172 117 (.aload_n 0) 118 := ⟨1, rfl, Or.inr rfl, rfl⟩
set_option maxRecDepth 100000 in
theorem lk172_118 : xAt kT172 118 (.getfield 72) 121 := ⟨3, rfl, Or.inr rfl, rfl⟩
set_option maxRecDepth 100000 in
theorem lk172_121 : xAt kT172 121 (.getfield 100) 124 := ⟨3, rfl, Or.inr rfl, rfl⟩
set_option maxRecDepth 100000 in
theorem lk172_124 : xAt kT172 124 (.if_icmp .le 31) 127 := ⟨3, rfl, Or.inr rfl, rfl⟩
set_option maxRecDepth 100000 in
theorem lk172_127 : xAt kT172 127 (.aload_n 0) 128 := ⟨1, rfl, Or.inr rfl, rfl⟩
set_option maxRecDepth 100000 in
theorem lk172_128 : xAt kT172 128 (.getfield 72) 131 := ⟨3, rfl, Or.inr rfl, rfl⟩
set_option maxRecDepth 100000 in
theorem lk172_131 : xAt kT172 131 (.iload_n 2) 132 := ⟨1, rfl, Or.inr rfl, rfl⟩
set_option maxRecDepth 100000 in
theorem lk172_132 : xAt kT172 132 (.iconst 1) 133 := ⟨1, rfl, Or.inr rfl, rfl⟩
set_option maxRecDepth 100000 in
theorem lk172_133 : xAt kT172 133 (.iadd) 134 := ⟨1, rfl, Or.inr rfl, rfl⟩
set_option maxRecDepth 100000 in
theorem lk172_134 : xAt kT172 134 (.iload 4) 136 := ⟨2, rfl, Or.inr rfl, rfl⟩
set_option maxRecDepth 100000 in
theorem lk172_136 : xAt kT172 136 (.iadd) 137 := ⟨1, rfl, Or.inr rfl, rfl⟩
set_option maxRecDepth 100000 in
theorem lk172_137 : xAt kT172 137 (.invokevirtual 311) 140 := ⟨3, rfl, Or.inr rfl, rfl⟩
set_option maxRecDepth 100000 in
theorem lk172_140 : xAt kT172 140 (.aload_n 1) 141 := ⟨1, rfl, Or.inr rfl, rfl⟩
set_option maxRecDepth 100000 in
theorem lk172_141 : xAt kT172 141 (.getfield 409) 144 := ⟨3, rfl, Or.inr rfl, rfl⟩
set_option maxRecDepth 100000 in
theorem lk172_144 : xAt kT172 144 (.iload 4) 146 := ⟨2, rfl, Or.inr rfl, rfl⟩
set_option maxRecDepth 100000 in
theorem lk172_146 : xAt kT172 146 (.bipush 6) 148 := ⟨2, rfl, Or.inr rfl, rfl⟩
set_option maxRecDepth 100000 in
theorem lk172_148 : xAt kT172 148 (.imul) 149 := ⟨1, rfl, Or.inr rfl, rfl⟩
set_option maxRecDepth 100000 in
theorem lk172_149 : xAt kT172 149 (.iconst 0) 150 := ⟨1, rfl, Or.inr rfl, rfl⟩
set_option maxRecDepth 100000 in
theorem lk172_150 : xAt kT172 150 (.iadd) 151 := ⟨1, rfl, Or.inr rfl, rfl⟩
set_option maxRecDepth 100000 in
theorem lk172_151 : xAt kT172 151 (.iaload) 152 := ⟨1, rfl, Or.inr rfl, rfl⟩
set_option maxRecDepth 100000 in
theorem lk172_152 : xAt kT172 152 (.if_icmp .ne 9) 155 := ⟨3, rfl, Or.inr rfl, rfl⟩
set_option maxRecDepth 100000 in
theorem lk172_155 : xAt kT172 155 (.iinc 4 1) 158 := ⟨3, rfl, Or.inr rfl, rfl⟩
set_option maxRecDepth 100000 in
theorem lk172_158 : xAt kT172 158 (.goto (-53)) 161 := ⟨3, rfl, Or.inr rfl, rfl⟩
set_option maxRecDepth 100000 in
theorem lk172_161 : xAt kT172 161 (.iload 4) 163 := ⟨2, rfl, Or.inr rfl, rfl⟩
set_option maxRecDepth 100000 in
theorem lk172_163 : xAt kT172 163 (.iload_n 3) 164 := ⟨1, rfl, Or.inr rfl, rfl⟩
set_option maxRecDepth 100000 in
theorem lk172_164 : xAt kT172 164 (.if_icmp .ge 45) 167 := ⟨3, rfl, Or.inr rfl, rfl⟩
set_option maxRecDepth 100000 in
theorem lk172_167 : xAt kT172 167 (.iload_n 2) 168 := ⟨1, rfl, Or.inr rfl, rfl⟩
set_option maxRecDepth 100000 in
theorem lk172_168 : xAt kT172 168 (.iconst 1) 169 := ⟨1, rfl, Or.inr rfl, rfl⟩
set_option maxRecDepth 100000 in
theorem lk172_169 : xAt kT172 169 (.iadd) 170 := ⟨1, rfl, Or.inr rfl, rfl⟩
set_option maxRecDepth 100000 in
theorem lk172_170 : xAt kT172 170 (.iload 4) 172 := ⟨2, rfl, Or.inr rfl, rfl⟩
set_option maxRecDepth 100000 in
theorem lk172_172 : xAt kT172 172 (.iadd) 173 := ⟨1, rfl, Or.inr rfl, rfl⟩
set_option maxRecDepth 100000 in
theorem lk172_173 : xAt kT172 173 (.aload_n 0) 174 := ⟨1, rfl, Or.inr rfl, rfl⟩
set_option maxRecDepth 100000 in
theorem lk172_174 : xAt kT172 174 (.getfield 72) 177 := ⟨3, rfl, Or.inr rfl, rfl⟩
set_option maxRecDepth 100000 in
theorem lk172_177 : xAt kT172 177 (.getfield 103) 180 := ⟨3, rfl, Or.inr rfl, rfl⟩
set_option maxRecDepth 100000 in
theorem lk172_180 : xAt kT172 180 (.if_icmp .gt 29) 183 := ⟨3, rfl, Or.inr rfl, rfl⟩
set_option maxRecDepth 100000 in
theorem lk172_183 : xAt kT172 183 (.aload_n 0) 184 := ⟨1, rfl, Or.inr rfl, rfl⟩
set_option maxRecDepth 100000 in
theorem lk172_184 : xAt kT172 184 (.getfield 72) 187 := ⟨3, rfl, Or.inr rfl, rfl⟩
set_option maxRecDepth 100000 in
theorem lk172_187 : xAt kT172 187 (.iload_n 2) 188 := ⟨1, rfl, Or.inr rfl, rfl⟩
set_option maxRecDepth 100000 in
theorem lk172_188 : xAt kT172 188 (.iconst 1) 189 := ⟨1, rfl, Or.inr rfl, rfl⟩
set_option maxRecDepth 100000 in
theorem lk172_189 : xAt kT172 189 (.iadd) 190 := ⟨1, rfl, Or.inr rfl, rfl⟩
set_option maxRecDepth 100000 in
theorem lk172_190 : xAt kT172 190 (.iload 4) 192 := ⟨2, rfl, Or.inr rfl, rfl⟩
set_option maxRecDepth 100000 in
theorem lk172_192 : xAt kT172 192 (.iadd) 193 := ⟨1, rfl, Or.inr rfl, rfl⟩
set_option maxRecDepth 100000 in
theorem lk172_193 : xAt kT172 193 (.invokevirtual 512) 196 := ⟨3, rfl, Or.inr rfl, rfl⟩
set_option maxRecDepth 100000 in
theorem lk172_196 : xAt kT172 196 (.aload_n 0) 197 := ⟨1, rfl, Or.inr rfl, rfl⟩
set_option maxRecDepth 100000 in
theorem lk172_197 : xAt kT172 197 (.getfield 12) 200 := ⟨3, rfl, Or.inr rfl, rfl⟩
set_option maxRecDepth 100000 in
theorem lk172_200 : xAt kT172 200 (.iload_n 2) 201 := ⟨1, rfl, Or.inr rfl, rfl⟩
set_option maxRecDepth 100000 in
theorem lk172_201 : xAt kT172 201 (.iconst 1) 202 := ⟨1, rfl, Or.inr rfl, rfl⟩
set_option maxRecDepth 100000 in
theorem lk172_202 : xAt kT172 202 (.iadd) 203 := ⟨1, rfl, Or.inr rfl, rfl⟩
set_option maxRecDepth 100000 in
theorem lk172_203 : xAt kT172 203 (.iload 4) 205 := ⟨2, rfl, Or.inr rfl, rfl⟩
set_option maxRecDepth 100000 in
theorem lk172_205 : xAt kT172 205 (.iadd) 206 := ⟨1, rfl, Or.inr rfl, rfl⟩
set_option maxRecDepth 100000 in
theorem lk172_206 : xAt kT172 206 (.invokevirtual 515) 209 := ⟨3, rfl, Or.inr rfl, rfl⟩
set_option maxRecDepth 100000 in
theorem lk172_209 : xAt kT172 209 (.iload 4) 211 := ⟨2, rfl, Or.inr rfl, rfl⟩
set_option maxRecDepth 100000 in
theorem lk172_211 : xAt kT172 211 (.istore 5) 213 := ⟨2, rfl, Or.inr rfl, rfl⟩
set_option maxRecDepth 100000 in
theorem lk172_213 : xAt kT172 213 (.iload 5) 215 := ⟨2, rfl, Or.inr rfl, rfl⟩
set_option maxRecDepth 100000 in
theorem lk172_215 : xAt kT172 215 (.iload_n 3) 216 := ⟨1, rfl, Or.inr rfl, rfl⟩
set_option maxRecDepth 100000 in
theorem lk172_216 : xAt kT172 216 (.if_icmp .ge 22) 219 := ⟨3, rfl, Or.inr rfl, rfl⟩
set_option maxRecDepth 100000 in
theorem lk172_219 : xAt kT172 219 (.aload_n 0) 220 := ⟨1, rfl, Or.inr rfl, rfl⟩
set_option maxRecDepth 100000 in
theorem lk172_220 : xAt kT172 220 (.aload_n 1) 221 := ⟨1, rfl, Or.inr rfl, rfl⟩
set_option maxRecDepth 100000 in
theorem lk172_221 : xAt kT172 221 (.getfield 409) 224 := ⟨3, rfl, Or.inr rfl, rfl⟩
set_option maxRecDepth 100000 in
theorem lk172_224 : xAt kT172 224 (.iload 5) 226 := ⟨2, rfl, Or.inr rfl, rfl⟩
set_option maxRecDepth 100000 in
theorem lk172_226 : xAt kT172 226 (.bipush 6) 228 := ⟨2, rfl, Or.inr rfl, rfl⟩
set_option maxRecDepth 100000 in
theorem lk172_228 : xAt kT172 228 (.imul) 229 := ⟨1, rfl, Or.inr rfl, rfl⟩
set_option maxRecDepth 100000 in
theorem lk172_229 : xAt kT172 229 (.invokevirtual 451) 232 := ⟨3, rfl, Or.inr rfl, rfl⟩
set_option maxRecDepth 100000 in
theorem lk172_232 : xAt kT172 232 (.iinc 5 1) 235 := ⟨3, rfl, Or.inr rfl, rfl⟩
set_option maxRecDepth 100000 in
theorem lk172_235 : xAt kT172 235 (.goto (-22)) 238 := ⟨3, rfl, Or.inr rfl, rfl⟩
set_option maxRecDepth 100000 in
theorem lk172_238 : xAt kT172 238 (.iload_n 2) 239 := ⟨1, rfl, Or.inr rfl, rfl⟩
set_option maxRecDepth 100000 in
theorem lk172_239 : xAt kT172 239 (.iload_n 3) 240 := ⟨1, rfl, Or.inr rfl, rfl⟩
set_option maxRecDepth 100000 in
theorem lk172_240 : xAt kT172 240 (.iadd) 241 := ⟨1, rfl, Or.inr rfl, rfl⟩
set_option maxRecDepth 100000 in
theorem lk172_241 : xAt kT172 241 (.aload_n 0) 242 := ⟨1, rfl, Or.inr rfl, rfl⟩
set_option maxRecDepth 100000 in
theorem lk172_242 : xAt kT172 242 (.getfield 72) 245 := ⟨3, rfl, Or.inr rfl, rfl⟩
set_option maxRecDepth 100000 in
theorem lk172_245 : xAt kT172 245 (.getfield 100) 248 := ⟨3, rfl, Or.inr rfl, rfl⟩
set_option maxRecDepth 100000 in
theorem lk172_248 : xAt kT172 248 (.invokestatic 293) 251 := ⟨3, rfl, Or.inr rfl, rfl⟩
set_option maxRecDepth 100000 in
theorem lk172_251 : xAt kT172 251 (.istore 5) 253 := ⟨2, rfl, Or.inr rfl, rfl⟩
set_option maxRecDepth 100000 in
theorem lk172_253 : xAt kT172 253 (.aload_n 0) 254 := ⟨1, rfl, Or.inr rfl, rfl⟩
set_option maxRecDepth 100000 in
theorem lk172_254 : xAt kT172 254 (.getfield 72) 257 := ⟨3, rfl, Or.inr rfl, rfl⟩
set_option maxRecDepth 100000 in
theorem lk172_257 : xAt kT172 257 (.aload_n 0) 258 := ⟨1, rfl, Or.inr rfl, rfl⟩
set_option maxRecDepth 100000 in
theorem lk172_258 : xAt kT172 258 (.getfield 72) 261 := ⟨3, rfl, Or.inr rfl, rfl⟩
set_option maxRecDepth 100000 in
theorem lk172_261 : xAt kT172 261 (.getfield 91) 264 := ⟨3, rfl, Or.inr rfl, rfl⟩
set_option maxRecDepth 100000 in
theorem lk172_264 : xAt kT172 264 (.aload_n 1) 265 := ⟨1, rfl, Or.inr rfl, rfl⟩
set_option maxRecDepth 100000 in
theorem lk172_265 : xAt kT172 265 (.getfield 404) 268 := ⟨3, rfl, Or.inr rfl, rfl⟩
set_option maxRecDepth 100000 in
theorem lk172_268 : xAt kT172 268 (.iload 5) 270 := ⟨2, rfl, Or.inr rfl, rfl⟩
set_option maxRecDepth 100000 in
theorem lk172_270 : xAt kT172 270 (.invokestatic 397) 273 := ⟨3, rfl, Or.inr rfl, rfl⟩
set_option maxRecDepth 100000 in
theorem lk172_273 : xAt kT172 273 (.invokestatic 293) 276 := ⟨3, rfl, Or.inr rfl, rfl⟩
set_option maxRecDepth 100000 in
theorem lk172_276 : xAt kT172 276 (.putfield 91) 279 := ⟨3, rfl, Or.inr rfl, rfl⟩
set_option maxRecDepth 100000 in
theorem lk172_279 : xAt kT172 279 (.aload_n 1) 280 := ⟨1, rfl, Or.inr rfl, rfl⟩
set_option maxRecDepth 100000 in
theorem lk172_280 : xAt kT172 280 (.iload 5) 282 := ⟨2, rfl, Or.inr rfl, rfl⟩
set_option maxRecDepth 100000 in
theorem lk172_282 : xAt kT172 282 (.putfield 189) 285 := ⟨3, rfl, Or.inr rfl, rfl⟩
set_option maxRecDepth 100000 in
theorem lk172_285 : xAt kT172 285 (.aload_n 0) 286 := ⟨1, rfl, Or.inr rfl, rfl⟩
set_option maxRecDepth 100000 in
theorem lk172_286 : xAt kT172 286 (.dup) 287 := ⟨1, rfl, Or.inr rfl, rfl⟩
set_option maxRecDepth 100000 in
theorem lk172_287 : xAt kT172 287 (.getfield 146) 290 := ⟨3, rfl, Or.inr rfl, rfl⟩
set_option maxRecDepth 100000 in
theorem lk172_290 : xAt kT172 290 (.sipush 528) 293 := ⟨3, rfl, Or.inr rfl, rfl⟩
set_option maxRecDepth 100000 in
theorem lk172_293 : xAt kT172 293 (.ior) 294 := ⟨1, rfl, Or.inr rfl, rfl⟩
set_option maxRecDepth 100000 in
theorem lk172_294 : xAt kT172 294 (.putfield 146) 297 := ⟨3, rfl, Or.inr rfl, rfl⟩
set_option maxRecDepth 100000 in
theorem lk172_297 : xAt kT172 297 (.return_) 298 := ⟨1, rfl, Or.inr rfl, rfl⟩
set_option maxRecDepth 100000 in
theorem lk168_0 : xAt kT168 0 (.aload_n 1) 1 := ⟨1, rfl, Or.inr rfl, rfl⟩
set_option maxRecDepth 100000 in
theorem lk168_1 : xAt kT168 1 (.getfield 343) 4 := ⟨3, rfl, Or.inr rfl, rfl⟩
set_option maxRecDepth 100000 in
theorem lk168_4 : xAt kT168 4 (.iconst 1) 5 := ⟨1, rfl, Or.inr rfl, rfl⟩
set_option maxRecDepth 100000 in
theorem lk168_5 : xAt kT168 5 (.if_icmp .ne 58) 8 := ⟨3, rfl, Or.inr rfl, rfl⟩
set_option maxRecDepth 100000 in
theorem lk168_8 : xAt kT168 8 (.aload_n 1) 9 := ⟨1, rfl, Or.inr rfl, rfl⟩
set_option maxRecDepth 100000 in
theorem lk168_9 : xAt kT168 9 (.getfield 342) 12 := ⟨3, rfl, Or.inr rfl, rfl⟩
set_option maxRecDepth 100000 in
theorem lk168_12 : xAt kT168 12 (.aload_n 0) 13 := ⟨1, rfl, Or.inr rfl, rfl⟩
set_option maxRecDepth 100000 in
theorem lk168_13 : xAt kT168 13 (.getfield 88) 16 := ⟨3, rfl, Or.inr rfl, rfl⟩
set_option maxRecDepth 100000 in
theorem lk168_16 : xAt kT168 16 (.if_icmp .ne 47) 19 := ⟨3, rfl, Or.inr rfl, rfl⟩
set_option maxRecDepth 100000 in
theorem lk168_19 : xAt kT168 19 (.aload_n 0) 20 := ⟨1, rfl, Or.inr rfl, rfl⟩
set_option maxRecDepth 100000 in
theorem lk168_20 : xAt kT168 20 (.getfield 85) 23 := ⟨3, rfl, Or.inr rfl, rfl⟩
set_option maxRecDepth 100000 in
theorem lk168_23 : xAt kT168 23 (.iconst 2) 24 := ⟨1, rfl, Or.inr rfl, rfl⟩
set_option maxRecDepth 100000 in
theorem lk168_24 : xAt kT168 24 (.if_icmp .ne 39) 27 := ⟨3, rfl, Or.inr rfl, rfl⟩
set_option maxRecDepth 100000 in
theorem lk168_27 : xAt kT168 27 (.aload_n 0) 28 := ⟨1, rfl, Or.inr rfl, rfl⟩
set_option maxRecDepth 100000 in
theorem lk168_28 : xAt kT168 28 (.dup) 29 := ⟨1, rfl, Or.inr rfl, rfl⟩
set_option maxRecDepth 100000 in
theorem lk168_29 : xAt kT168 29 (.getfield 109) 32 := ⟨3, rfl, Or.inr rfl, rfl⟩
set_option maxRecDepth 100000 in
theorem lk168_32 : xAt kT168 32 (.iconst 1) 33 := ⟨1, rfl, Or.inr rfl, rfl⟩
set_option maxRecDepth 100000 in
theorem lk168_33 : xAt kT168 33 (.aload_n 1) 34 := ⟨1, rfl, Or.inr rfl, rfl⟩
set_option maxRecDepth 100000 in
theorem lk168_34 : xAt kT168 34 (.getfield 181) 37 := ⟨3, rfl, Or.inr rfl, rfl⟩
set_option maxRecDepth 100000 in
theorem lk168_37 : xAt kT168 37 (.ishl) 38 := ⟨1, rfl, Or.inr rfl, rfl⟩
set_option maxRecDepth 100000 in
theorem lk168_38 : xAt kT168 38 (.ior) 39 := ⟨1, rfl, Or.inr rfl, rfl⟩
set_option maxRecDepth 100000 in
theorem lk168_39 : xAt kT168 39 (.putfield 109) 42 := ⟨3, rfl, Or.inr rfl, rfl⟩
set_option maxRecDepth 100000 in
theorem lk168_42 : xAt kT168 42 (.aload_n 0) 43 := ⟨1, rfl, Or.inr rfl, rfl⟩
set_option maxRecDepth 100000 in
theorem lk168_43 : xAt kT168 43 (.aload_n 0) 44 := ⟨1, rfl, Or.inr rfl, rfl⟩
set_option maxRecDepth 100000 in
theorem lk168_44 : xAt kT168 44 (.getfield 109) 47 := ⟨3, rfl, Or.inr rfl, rfl⟩
set_option maxRecDepth 100000 in
theorem lk168_47 : xAt kT168 47 (.invokevirtual 444) 50 := ⟨3, rfl, Or.inr rfl, rfl⟩
set_option maxRecDepth 100000 in
theorem lk168_50 : xAt kT168 50 (.ifCond .eq 13) 53 := ⟨3, rfl, Or.inr rfl, rfl⟩
set_option maxRecDepth 100000 in
theorem lk168_53 : xAt kT168 53 (.aload_n 0) 54 := ⟨1, rfl, Or.inr rfl, rfl⟩
set_option maxRecDepth 100000 in
theorem lk168_54 : xAt kT168 54 (.dup) 55 := ⟨1, rfl, Or.inr rfl, rfl⟩
set_option maxRecDepth 100000 in
theorem lk168_55 : xAt kT168 55 (.getfield 146) 58 := ⟨3, rfl, Or.inr rfl, rfl⟩
set_option maxRecDepth 100000 in
theorem lk168_58 : xAt kT168 58 (.iconst 2) 59 := ⟨1, rfl, Or.inr rfl, rfl⟩
set_option maxRecDepth 100000 in
theorem lk168_59 : xAt kT168 59 (.ior) 60 := ⟨1, rfl, Or.inr rfl, rfl⟩
set_option maxRecDepth 100000 in
theorem lk168_60 : xAt kT168 60 (.putfield 146) 63 := ⟨3, rfl, Or.inr rfl, rfl⟩
set_option maxRecDepth 100000 in
theorem lk168_63 : xAt kT168 63 (.return_) 64 := ⟨1, rfl, Or.inr rfl, rfl⟩
set_option maxRecDepth 100000 in
theorem lk162_0 : xAt kT162 0 (.aload_n 0) 1 := ⟨1, rfl, Or.inr rfl, rfl⟩
set_option maxRecDepth 100000 in
theorem lk162_1 : xAt kT162 1 (.iload_n 1) 2 := ⟨1, rfl, Or.inr rfl, rfl⟩
set_option maxRecDepth 100000 in
theorem lk162_2 : xAt kT162 2 (.iload_n 2) 3 := ⟨1, rfl, Or.inr rfl, rfl⟩
set_option maxRecDepth 100000 in
theorem lk162_3 : xAt kT162 3 (.invokevirtual 351) 6 := ⟨3, rfl, Or.inr rfl, rfl⟩
set_option maxRecDepth 100000 in
theorem lk162_6 : xAt kT162 6 (.astore 5) 8 := ⟨2, rfl, Or.inr rfl, rfl⟩
set_option maxRecDepth 100000 in
theorem lk162_8 : xAt kT162 8 (.aload 5) 10 := ⟨2, rfl, Or.inr rfl, rfl⟩
set_option maxRecDepth 100000 in
theorem lk162_10 : xAt kT162 10 (.iload_n 3) 11 := ⟨1, rfl, Or.inr rfl, rfl⟩
set_option maxRecDepth 100000 in
theorem lk162_11 : xAt kT162 11 (.putfield 342) 14 := ⟨3, rfl, Or.inr rfl, rfl⟩
set_option maxRecDepth 100000 in
theorem lk162_14 : xAt kT162 14 (.aload 5) 16 := ⟨2, rfl, Or.inr rfl, rfl⟩
set_option maxRecDepth 100000 in
theorem lk162_16 : xAt kT162 16 (.iload 4) 18 := ⟨2, rfl, Or.inr rfl, rfl⟩
set_option maxRecDepth 100000 in
theorem lk162_18 : xAt kT162 18 (.ifCond .eq 7) 21 := ⟨3, rfl, Or.inr rfl, rfl⟩
set_option maxRecDepth 100000 in
theorem lk162_21 : xAt kT162 21 (.iconst 1) 22 := ⟨1, rfl, Or.inr rfl, rfl⟩
set_option maxRecDepth 100000 in
theorem lk162_22 : xAt kT162 22 (.goto 4) 25 := ⟨3, rfl, Or.inr rfl, rfl⟩
set_option maxRecDepth 100000 in
theorem lk162_25 : xAt kT162 25 (.iconst 0) 26 := ⟨1, rfl, Or.inr rfl, rfl⟩
set_option maxRecDepth 100000 in
theorem lk162_26 : xAt kT162 26 (.putfield 343) 29 := ⟨3, rfl, Or.inr rfl, rfl⟩
set_option maxRecDepth 100000 in
theorem lk162_29 : xAt kT162 29 (.aload_n 0) 30 := ⟨1, rfl, Or.inr rfl, rfl⟩
set_option maxRecDepth 100000 in
theorem lk162_30 : xAt kT162 30 (.aload 5) 32 := ⟨2, rfl, Or.inr rfl, rfl⟩
set_option maxRecDepth 100000 in
theorem lk162_32 : xAt kT162 32 (.invokevirtual 362) 35 := ⟨3, rfl, Or.inr rfl, rfl⟩
set_option maxRecDepth 100000 in
theorem lk162_35 : xAt kT162 35 (.return_) 36 := ⟨1, rfl, Or.inr rfl, rfl⟩
set_option maxRecDepth 100000 in
theorem lk170_0 : xAt kT170 0 (.aload_n 1) 1 := ⟨1, rfl, Or.inr rfl, rfl⟩
set_option maxRecDepth 100000 in
theorem lk170_1 : xAt kT170 1 (.getfield 342) 4 := ⟨3, rfl, Or.inr rfl, rfl⟩
set_option maxRecDepth 100000 in
theorem lk170_4 : xAt kT170 4 (.aload_n 0) 5 := ⟨1, rfl, Or.inr rfl, rfl⟩
set_option maxRecDepth 100000 in
theorem lk170_5 : xAt kT170 5 (.getfield 88) 8 := ⟨3, rfl, Or.inr rfl, rfl⟩
set_option maxRecDepth 100000 in
theorem lk170_8 : xAt kT170 8 (.if_icmp .ne 34) 11 := ⟨3, rfl, Or.inr rfl, rfl⟩
set_option maxRecDepth 100000 in
theorem lk170_11 : xAt kT170 11 (.aload_n 0) 12 := ⟨1, rfl, Or.inr rfl, rfl⟩
set_option maxRecDepth 100000 in
theorem lk170_12 : xAt kT170 12 (.getfield 43) 15 := ⟨3, rfl, Or.inr rfl, rfl⟩
set_option maxRecDepth 100000 in
theorem lk170_15 : xAt kT170 15 (.iconst (-1)) 16 := ⟨1, rfl, Or.inr rfl, rfl⟩
set_option maxRecDepth 100000 in
theorem lk170_16 : xAt kT170 16 (.if_icmp .eq 14) 19 := ⟨3, rfl, Or.inr rfl, rfl⟩
set_option maxRecDepth 100000 in
theorem lk170_19 : xAt kT170 19 (.aload_n 0) 20 := ⟨1, rfl, Or.inr rfl, rfl⟩
set_option maxRecDepth 100000 in
theorem lk170_20 : xAt kT170 20 (.getfield 43) 23 := ⟨3, rfl, Or.inr rfl, rfl⟩
set_option maxRecDepth 100000 in
theorem lk170_23 : xAt kT170 23 (.aload_n 1) 24 := ⟨1, rfl, Or.inr rfl, rfl⟩
set_option maxRecDepth 100000 in
theorem lk170_24 : xAt kT170 24 (.getfield 181) 27 := ⟨3, rfl, Or.inr rfl, rfl⟩
set_option maxRecDepth 100000 in
theorem lk170_27 : xAt kT170 27 (.if_icmp .ne 15) 30 := ⟨3, rfl, Or.inr rfl, rfl⟩
set_option maxRecDepth 100000 in
theorem lk170_30 : xAt kT170 30 (.aload_n 0) 31 := ⟨1, rfl, Or.inr rfl, rfl⟩
set_option maxRecDepth 100000 in
theorem lk170_31 : xAt kT170 31 (.aload_n 1) 32 := ⟨1, rfl, Or.inr rfl, rfl⟩
set_option maxRecDepth 100000 in
theorem lk170_32 : xAt kT170 32 (.invokevirtual 499) 35 := ⟨3, rfl, Or.inr rfl, rfl⟩
set_option maxRecDepth 100000 in
theorem lk170_35 : xAt kT170 35 (.ifCond .eq 7) 38 := ⟨3, rfl, Or.inr rfl, rfl⟩
set_option maxRecDepth 100000 in
theorem lk170_38 : xAt kT170 38 (.iconst 1) 39 := ⟨1, rfl, Or.inr rfl, rfl⟩
set_option maxRecDepth 100000 in
theorem lk170_39 : xAt kT170 39 (.goto 4) 42 := ⟨3, rfl, Or.inr rfl, rfl⟩
set_option maxRecDepth 100000 in
theorem lk170_42 : xAt kT170 42 (.iconst 0) 43 := ⟨1, rfl, Or.inr rfl, rfl⟩
set_option maxRecDepth 100000 in
theorem lk170_43 : xAt kT170 43 (.istore_n 2) 44 := ⟨1, rfl, Or.inr rfl, rfl⟩
set_option maxRecDepth 100000 in
theorem lk170_44 : xAt kT170 44 (.iload_n 2) 45 := ⟨1, rfl, Or.inr rfl, rfl⟩
set_option maxRecDepth 100000 in
theorem lk170_45 : xAt kT170 45 (.ifCond .eq 42) 48 := ⟨3, rfl, Or.inr rfl, rfl⟩
set_option maxRecDepth 100000 in
theorem lk170_48 : xAt kT170 48 (.aload_n 0) 49 := ⟨1, rfl, Or.inr rfl, rfl⟩
set_option maxRecDepth 100000 in
theorem lk170_49 : xAt kT170 49 (.getfield 43) 52 := ⟨3, rfl, Or.inr rfl, rfl⟩
set_option maxRecDepth 100000 in
theorem lk170_52 : xAt kT170 52 (.aload_n 1) 53 := ⟨1, rfl, Or.inr rfl, rfl⟩
set_option maxRecDepth 100000 in
theorem lk170_53 : xAt kT170 53 (.getfield 181) 56 := ⟨3, rfl, Or.inr rfl, rfl⟩
set_option maxRecDepth 100000 in
theorem lk170_56 : xAt kT170 56 (.if_icmp .eq 15) 59 := ⟨3, rfl, Or.inr rfl, rfl⟩
set_option maxRecDepth 100000 in
theorem lk170_59 : xAt kT170 59 (.aload_n 0) 60 := ⟨1, rfl, Or.inr rfl, rfl⟩
set_option maxRecDepth 100000 in
theorem lk170_60 : xAt kT170 60 (.aload_n 0) 61 := ⟨1, rfl, Or.inr rfl, rfl⟩
set_option maxRecDepth 100000 in
theorem lk170_61 : xAt kT170 61 (.getfield 88) 64 := ⟨3, rfl, Or.inr rfl, rfl⟩
set_option maxRecDepth 100000 in
theorem lk170_64 : xAt kT170 64 (.aload_n 1) 65 := ⟨1, rfl, Or.inr rfl, rfl⟩
set_option maxRecDepth 100000 in
theorem lk170_65 : xAt kT170 65 (.getfield 181) 68 := ⟨3, rfl, Or.inr rfl, rfl⟩
set_option maxRecDepth 100000 in
theorem lk170_68 : xAt kT170 68 (.invokevirtual 425) 71 := ⟨3, rfl, Or.inr rfl, rfl⟩
set_option maxRecDepth 100000 in
theorem lk170_71 : xAt kT170 71 (.aload_n 0) 72 := ⟨1, rfl, Or.inr rfl, rfl⟩
set_option maxRecDepth 100000 in
theorem lk170_72 : xAt kT170 72 (.iconst 0) 73 := ⟨1, rfl, Or.inr rfl, rfl⟩
set_option maxRecDepth 100000 in
theorem lk170_73 : xAt kT170 73 (.putfield 85) 76 := ⟨3, rfl, Or.inr rfl, rfl⟩
set_option maxRecDepth 100000 in
theorem lk170_76 : xAt kT170 76 (.aload_n 0) 77 := ⟨1, rfl, Or.inr rfl, rfl⟩
set_option maxRecDepth 100000 in
theorem lk170_77 : xAt kT170 77 (.getfield 63) 80 := ⟨3, rfl, Or.inr rfl, rfl⟩
set_option maxRecDepth 100000 in
theorem lk170_80 : xAt kT170 80 (.aload_n 0) 81 := ⟨1, rfl, Or.inr rfl, rfl⟩
set_option maxRecDepth 100000 in
theorem lk170_81 : xAt kT170 81 (.getfield 60) 84 := ⟨3, rfl, Or.inr rfl, rfl⟩
set_option maxRecDepth 100000 in
theorem lk170_84 : xAt kT170 84 (.invokevirtual 251) 87 := ⟨3, rfl, Or.inr rfl, rfl⟩
set_option maxRecDepth 100000 in
theorem lk170_87 : xAt kT170 87 (.aload_n 0) 88 := ⟨1, rfl, Or.inr rfl, rfl⟩
set_option maxRecDepth 100000 in
theorem lk170_88 : xAt kT170 88 (.aload_n 1) 89 := ⟨1, rfl, Or.inr rfl, rfl⟩
set_option maxRecDepth 100000 in
theorem lk170_89 : xAt kT170 89 (.getfield 181) 92 := ⟨3, rfl, Or.inr rfl, rfl⟩
set_option maxRecDepth 100000 in
theorem lk170_92 : xAt kT170 92 (.iconst 4) 93 := ⟨1, rfl, Or.inr rfl, rfl⟩
set_option maxRecDepth 100000 in
theorem lk170_93 : xAt kT170 93 (.aload_n 0) 94 := ⟨1, rfl, Or.inr rfl, rfl⟩
set_option maxRecDepth 100000 in
theorem lk170_94 : xAt kT170 94 (.getfield 88) 97 := ⟨3, rfl, Or.inr rfl, rfl⟩
set_option maxRecDepth 100000 in
theorem lk170_97 : xAt kT170 97 (.iload_n 2) 98 := ⟨1, rfl, Or.inr rfl, rfl⟩
set_option maxRecDepth 100000 in
theorem lk170_98 : xAt kT170 98 (.invokevirtual 502) 101 := ⟨3, rfl, Or.inr rfl, rfl⟩
set_option maxRecDepth 100000 in
theorem lk170_101 : xAt kT170 101 (.return_) 102 := ⟨1, rfl, Or.inr rfl, rfl⟩
set_option maxRecDepth 100000 in
theorem lk176_0 : xAt kT176 0 (.aload_n 1) 1 := ⟨1, rfl, Or.inr rfl, rfl⟩
set_option maxRecDepth 100000 in
theorem lk176_1 : xAt kT176 1 (.getfield 343) 4 := ⟨3, rfl, Or.inr rfl, rfl⟩
set_option maxRecDepth 100000 in
theorem lk176_4 : xAt kT176 4 (.iconst 1) 5 := ⟨1, rfl, Or.inr rfl, rfl⟩
set_option maxRecDepth 100000 in
theorem lk176_5 : xAt kT176 5 (.if_icmp .ne 60) 8 := ⟨3, rfl, Or.inr rfl, rfl⟩
set_option maxRecDepth 100000 in
theorem lk176_8 : xAt kT176 8 (.aload_n 1) 9 := ⟨1, rfl, Or.inr rfl, rfl⟩
set_option maxRecDepth 100000 in
theorem lk176_9 : xAt kT176 9 (.getfield 342) 12 := ⟨3, rfl, Or.inr rfl, rfl⟩
set_option maxRecDepth 100000 in
theorem lk176_12 : xAt kT176 12 (.aload_n 0) 13 := ⟨1, rfl, Or.inr rfl, rfl⟩
set_option maxRecDepth 100000 in
theorem lk176_13 : xAt kT176 13 (.getfield 88) 16 := ⟨3, rfl, Or.inr rfl, rfl⟩
set_option maxRecDepth 100000 in
theorem lk176_16 : xAt kT176 16 (.iconst 1) 17 := ⟨1, rfl, Or.inr rfl, rfl⟩
set_option maxRecDepth 100000 in
theorem lk176_17 : xAt kT176 17 (.iadd) 18 := ⟨1, rfl, Or.inr rfl, rfl⟩
set_option maxRecDepth 100000 in
theorem lk176_18 : xAt kT176 18 (.if_icmp .ne 47) 21 := ⟨3, rfl, Or.inr rfl, rfl⟩
set_option maxRecDepth 100000 in
theorem lk176_21 : xAt kT176 21 (.aload_n 0) 22 := ⟨1, rfl, Or.inr rfl, rfl⟩
set_option maxRecDepth 100000 in
theorem lk176_22 : xAt kT176 22 (.getfield 85) 25 := ⟨3, rfl, Or.inr rfl, rfl⟩
set_option maxRecDepth 100000 in
theorem lk176_25 : xAt kT176 25 (.iconst 1) 26 := ⟨1, rfl, Or.inr rfl, rfl⟩
set_option maxRecDepth 100000 in
theorem lk176_26 : xAt kT176 26 (.if_icmp .ne 39) 29 := ⟨3, rfl, Or.inr rfl, rfl⟩
set_option maxRecDepth 100000 in
theorem lk176_29 : xAt kT176 29 (.aload_n 0) 30 := ⟨1, rfl, Or.inr rfl, rfl⟩
set_option maxRecDepth 100000 in
theorem lk176_30 : xAt kT176 30 (.dup) 31 := ⟨1, rfl, Or.inr rfl, rfl⟩
set_option maxRecDepth 100000 in
theorem lk176_31 : xAt kT176 31 (.getfield 109) 34 := ⟨3, rfl, Or.inr rfl, rfl⟩
set_option maxRecDepth 100000 in
theorem lk176_34 : xAt kT176 34 (.iconst 1) 35 := ⟨1, rfl, Or.inr rfl, rfl⟩
set_option maxRecDepth 100000 in
theorem lk176_35 : xAt kT176 35 (.aload_n 1) 36 := ⟨1, rfl, Or.inr rfl, rfl⟩
set_option maxRecDepth 100000 in
theorem lk176_36 : xAt kT176 36 (.getfield 181) 39 := ⟨3, rfl, Or.inr rfl, rfl⟩
set_option maxRecDepth 100000 in
theorem lk176_39 : xAt kT176 39 (.ishl) 40 := ⟨1, rfl, Or.inr rfl, rfl⟩
set_option maxRecDepth 100000 in
theorem lk176_40 : xAt kT176 40 (.ior) 41 := ⟨1, rfl, Or.inr rfl, rfl⟩
set_option maxRecDepth 100000 in
theorem lk176_41 : xAt kT176 41 (.putfield 109) 44 := ⟨3, rfl, Or.inr rfl, rfl⟩
set_option maxRecDepth 100000 in
theorem lk176_44 : xAt kT176 44 (.aload_n 0) 45 := ⟨1, rfl, Or.inr rfl, rfl⟩
set_option maxRecDepth 100000 in
theorem lk176_45 : xAt kT176 45 (.aload_n 0) 46 := ⟨1, rfl, Or.inr rfl, rfl⟩
set_option maxRecDepth 100000 in
theorem lk176_46 : xAt kT176 46 (.getfield 109) 49 := ⟨3, rfl, Or.inr rfl, rfl⟩
set_option maxRecDepth 100000 in
theorem lk176_49 : xAt kT176 49 (.invokevirtual 444) 52 := ⟨3, rfl, Or.inr rfl, rfl⟩
set_option maxRecDepth 100000 in
theorem lk176_52 : xAt kT176 52 (.ifCond .eq 13) 55 := ⟨3, rfl, Or.inr rfl, rfl⟩
set_option maxRecDepth 100000 in
theorem lk176_55 : xAt kT176 55 (.aload_n 0) 56 := ⟨1, rfl, Or.inr rfl, rfl⟩
set_option maxRecDepth 100000 in
theorem lk176_56 : xAt kT176 56 (.dup) 57 := ⟨1, rfl, Or.inr rfl, rfl⟩
set_option maxRecDepth 100000 in
theorem lk176_57 : xAt kT176 57 (.getfield 146) 60 := ⟨3, rfl, Or.inr rfl, rfl⟩
set_option maxRecDepth 100000 in
theorem lk176_60 : xAt kT176 60 (.iconst 1) 61 := ⟨1, rfl, Or.inr rfl, rfl⟩
set_option maxRecDepth 100000 in
theorem lk176_61 : xAt kT176 61 (.ior) 62 := ⟨1, rfl, Or.inr rfl, rfl⟩
set_option maxRecDepth 100000 in
theorem lk176_62 : xAt kT176 62 (.putfield 146) 65 := ⟨3, rfl, Or.inr rfl, rfl⟩
set_option maxRecDepth 100000 in
theorem lk176_65 : xAt kT176 65 (.return_) 66 := ⟨1, rfl, Or.inr rfl, rfl⟩
set_option maxRecDepth 100000 in
theorem lk177_0 : xAt kT177 0 (.aload_n 1) 1 := ⟨1, rfl, Or.inr rfl, rfl⟩
set_option maxRecDepth 100000 in
theorem lk177_1 : xAt kT177 1 (.getfield 342) 4 := ⟨3, rfl, Or.inr rfl, rfl⟩
set_option maxRecDepth 100000 in
theorem lk177_4 : xAt kT177 4 (.aload_n 0) 5 := ⟨1, rfl, Or.inr rfl, rfl⟩
set_option maxRecDepth 100000 in
theorem lk177_5 : xAt kT177 5 (.getfield 88) 8 := ⟨3, rfl, Or.inr rfl, rfl⟩
set_option maxRecDepth 100000 in
theorem lk177_8 : xAt kT177 8 (.if_icmp .le 48) 11 := ⟨3, rfl, Or.inr rfl, rfl⟩
set_option maxRecDepth 100000 in
theorem lk177_11 : xAt kT177 11 (.aload_n 0) 12 := ⟨1, rfl, Or.inr rfl, rfl⟩
set_option maxRecDepth 100000 in
theorem lk177_12 : xAt kT177 12 (.aload_n 1) 13 := ⟨1, rfl, Or.inr rfl, rfl⟩
set_option maxRecDepth 100000 in
theorem lk177_13 : xAt kT177 13 (.invokevirtual 499) 16 := ⟨3, rfl, Or.inr rfl, rfl⟩
set_option maxRecDepth 100000 in
theorem lk177_16 : xAt kT177 16 (.ifCond .eq 40) 19 := ⟨3, rfl, Or.inr rfl, rfl⟩
set_option maxRecDepth 100000 in
theorem lk177_19 : xAt kT177 19 (.aload_n 0) 20 := ⟨1, rfl, Or.inr rfl, rfl⟩
set_option maxRecDepth 100000 in
theorem lk177_20 : xAt kT177 20 (.getfield 85) 23 := ⟨3, rfl, Or.inr rfl, rfl⟩
set_option maxRecDepth 100000 in
theorem lk177_23 : xAt kT177 23 (.iconst 3) 24 := ⟨1, rfl, Or.inr rfl, rfl⟩
set_option maxRecDepth 100000 in
theorem lk177_24 : xAt kT177 24 (.if_icmp .eq 32) 27 := ⟨3, rfl, Or.inr rfl, rfl⟩
set_option maxRecDepth 100000 in
theorem lk177_27 : xAt kT177 27 (.aload_n 0) 28 := ⟨1, rfl, Or.inr rfl, rfl⟩
set_option maxRecDepth 100000 in
theorem lk177_28 : xAt kT177 28 (.getfield 50) 31 := ⟨3, rfl, Or.inr rfl, rfl⟩
set_option maxRecDepth 100000 in
theorem lk177_31 : xAt kT177 31 (.iconst (-1)) 32 := ⟨1, rfl, Or.inr rfl, rfl⟩
set_option maxRecDepth 100000 in
theorem lk177_32 : xAt kT177 32 (.if_icmp .eq 20) 35 := ⟨3, rfl, Or.inr rfl, rfl⟩
set_option maxRecDepth 100000 in
theorem lk177_35 : xAt kT177 35 (.aload_n 0) 36 := ⟨1, rfl, Or.inr rfl, rfl⟩
set_option maxRecDepth 100000 in
theorem lk177_36 : xAt kT177 36 (.getfield 50) 39 := ⟨3, rfl, Or.inr rfl, rfl⟩
set_option maxRecDepth 100000 in
theorem lk177_39 : xAt kT177 39 (.aload_n 0) 40 := ⟨1, rfl, Or.inr rfl, rfl⟩
set_option maxRecDepth 100000 in
theorem lk177_40 : xAt kT177 40 (.getfield 63) 43 := ⟨3, rfl, Or.inr rfl, rfl⟩
set_option maxRecDepth 100000 in
theorem lk177_43 : xAt kT177 43 (.getfield 241) 46 := ⟨3, rfl, Or.inr rfl, rfl⟩
set_option maxRecDepth 100000 in
theorem lk177_46 : xAt kT177 46 (.bipush 50) 48 := ⟨2, rfl, Or.inr rfl, rfl⟩
set_option maxRecDepth 100000 in
theorem lk177_48 : xAt kT177 48 (.isub) 49 := ⟨1, rfl, Or.inr rfl, rfl⟩
set_option maxRecDepth 100000 in
theorem lk177_49 : xAt kT177 49 (.if_icmp .gt 7) 52 := ⟨3, rfl, Or.inr rfl, rfl⟩
set_option maxRecDepth 100000 in
theorem lk177_52 : xAt kT177 52 (.iconst 1) 53 := ⟨1, rfl, Or.inr rfl, rfl⟩
set_option maxRecDepth 100000 in
theorem lk177_53 : xAt kT177 53 (.goto 4) 56 := ⟨3, rfl, Or.inr rfl, rfl⟩
set_option maxRecDepth 100000 in
theorem lk177_56 : xAt kT177 56 (.iconst 0) 57 := ⟨1, rfl, Or.inr rfl, rfl⟩
set_option maxRecDepth 100000 in
theorem lk177_57 : xAt kT177 57 (.istore_n 2) 58 := ⟨1, rfl, Or.inr rfl, rfl⟩
set_option maxRecDepth 100000 in
theorem lk177_58 : xAt kT177 58 (.aload_n 0) 59 := ⟨1, rfl, Or.inr rfl, rfl⟩
set_option maxRecDepth 100000 in
theorem lk177_59 : xAt kT177 59 (.aload_n 1) 60 := ⟨1, rfl, Or.inr rfl, rfl⟩
set_option maxRecDepth 100000 in
theorem lk177_60 : xAt kT177 60 (.getfield 181) 63 := ⟨3, rfl, Or.inr rfl, rfl⟩
set_option maxRecDepth 100000 in
theorem lk177_63 : xAt kT177 63 (.iconst 2) 64 := ⟨1, rfl, Or.inr rfl, rfl⟩
set_option maxRecDepth 100000 in
theorem lk177_64 : xAt kT177 64 (.iload_n 2) 65 := ⟨1, rfl, Or.inr rfl, rfl⟩
set_option maxRecDepth 100000 in
theorem lk177_65 : xAt kT177 65 (.ifCond .eq 10) 68 := ⟨3, rfl, Or.inr rfl, rfl⟩
set_option maxRecDepth 100000 in
theorem lk177_68 : xAt kT177 68 (.aload_n 1) 69 := ⟨1, rfl, Or.inr rfl, rfl⟩
set_option maxRecDepth 100000 in
theorem lk177_69 : xAt kT177 69 (.getfield 342) 72 := ⟨3, rfl, Or.inr rfl, rfl⟩
set_option maxRecDepth 100000 in
theorem lk177_72 : xAt kT177 72 (.goto 7) 75 := ⟨3, rfl, Or.inr rfl, rfl⟩
set_option maxRecDepth 100000 in
theorem lk177_75 : xAt kT177 75 (.aload_n 0) 76 := ⟨1, rfl, Or.inr rfl, rfl⟩
set_option maxRecDepth 100000 in
theorem lk177_76 : xAt kT177 76 (.getfield 88) 79 := ⟨3, rfl, Or.inr rfl, rfl⟩
set_option maxRecDepth 100000 in
theorem lk177_79 : xAt kT177 79 (.iload_n 2) 80 := ⟨1, rfl, Or.inr rfl, rfl⟩
set_option maxRecDepth 100000 in
theorem lk177_80 : xAt kT177 80 (.invokevirtual 502) 83 := ⟨3, rfl, Or.inr rfl, rfl⟩
set_option maxRecDepth 100000 in
theorem lk177_83 : xAt kT177 83 (.return_) 84 := ⟨1, rfl, Or.inr rfl, rfl⟩
set_option maxRecDepth 100000 in
theorem lk154_0 : xAt kT154 0 (.aload_n 1) 1 := ⟨1, rfl, Or.inr rfl, rfl⟩
set_option maxRecDepth 100000 in
theorem lk154_1 : xAt kT154 1 (.getfield 339) 4 := ⟨3, rfl, Or.inr rfl, rfl⟩
set_option maxRecDepth 100000 in
theorem lk154_4 : xAt kT154 4 (.bipush 10) 6 := ⟨2, rfl, Or.inr rfl, rfl⟩
set_option maxRecDepth 100000 in
theorem lk154_6 : xAt kT154 6 (.if_icmp .ne 9) 9 := ⟨3, rfl, Or.inr rfl, rfl⟩
set_option maxRecDepth 100000 in
theorem lk154_9 : xAt kT154 9 (.aload_n 0) 10 := ⟨1, rfl, Or.inr rfl, rfl⟩
set_option maxRecDepth 100000 in
theorem lk154_10 : xAt kT154 10 (.aload_n 1) 11 := ⟨1, rfl, Or.inr rfl, rfl⟩
set_option maxRecDepth 100000 in
theorem lk154_11 : xAt kT154 11 (.invokevirtual 465) 14 := ⟨3, rfl, Or.inr rfl, rfl⟩
set_option maxRecDepth 100000 in
theorem lk154_14 : xAt kT154 14 (.return_) 15 := ⟨1, rfl, Or.inr rfl, rfl⟩
set_option maxRecDepth 100000 in
theorem lk154_15 : xAt kT154 15 (.aload_n 1) 16 := ⟨1, rfl, Or.inr rfl, rfl⟩
set_option maxRecDepth 100000 in
theorem lk154_16 : xAt kT154 16 (.getfield 339) 19 := ⟨3, rfl, Or.inr rfl, rfl⟩
set_option maxRecDepth 100000 in
theorem lk154_19 : xAt kT154 19 (.iconst 1) 20 := ⟨1, rfl, Or.inr rfl, rfl⟩
set_option maxRecDepth 100000 in
theorem lk154_20 : xAt kT154 20 (.if_icmp .eq 19) 23 := ⟨3, rfl, Or.inr rfl, rfl⟩
set_option maxRecDepth 100000 in
theorem lk154_23 : xAt kT154 23 (.aload_n 1) 24 := ⟨1, rfl, Or.inr rfl, rfl⟩
set_option maxRecDepth 100000 in
theorem lk154_24 : xAt kT154 24 (.getfield 339) 27 := ⟨3, rfl, Or.inr rfl, rfl⟩
set_option maxRecDepth 100000 in
theorem lk154_27 : xAt kT154 27 (.iconst 2) 28 := ⟨1, rfl, Or.inr rfl, rfl⟩
set_option maxRecDepth 100000 in
theorem lk154_28 : xAt kT154 28 (.if_icmp .ne 15) 31 := ⟨3, rfl, Or.inr rfl, rfl⟩
set_option maxRecDepth 100000 in
theorem lk154_31 : xAt kT154 31 (.aload_n 1) 32 := ⟨1, rfl, Or.inr rfl, rfl⟩
set_option maxRecDepth 100000 in
theorem lk154_32 : xAt kT154 32 (.getfield 343) 35 := ⟨3, rfl, Or.inr rfl, rfl⟩
set_option maxRecDepth 100000 in
theorem lk154_35 : xAt kT154 35 (.iconst 1) 36 := ⟨1, rfl, Or.inr rfl, rfl⟩
set_option maxRecDepth 100000 in
theorem lk154_36 : xAt kT154 36 (.if_icmp .ne 7) 39 := ⟨3, rfl, Or.inr rfl, rfl⟩
set_option maxRecDepth 100000 in
theorem lk154_39 : xAt kT154 39 (.iconst 1) 40 := ⟨1, rfl, Or.inr rfl, rfl⟩
set_option maxRecDepth 100000 in
theorem lk154_40 : xAt kT154 40 (.goto 4) 43 := ⟨3, rfl, Or.inr rfl, rfl⟩
set_option maxRecDepth 100000 in
theorem lk154_43 : xAt kT154 43 (.iconst 0) 44 := ⟨1, rfl, Or.inr rfl, rfl⟩
set_option maxRecDepth 100000 in
theorem lk154_44 : xAt kT154 44 (.istore_n 2) 45 := ⟨1, rfl, Or.inr rfl, rfl⟩
set_option maxRecDepth 100000 in
theorem lk154_45 : xAt kT154 45 (.aload_n 1) 46 := ⟨1, rfl, Or.inr rfl, rfl⟩
set_option maxRecDepth 100000 in
theorem lk154_46 : xAt kT154 46 (.getfield 342) 49 := ⟨3, rfl, Or.inr rfl, rfl⟩
set_option maxRecDepth 100000 in
theorem lk154_49 : xAt kT154 49 (.aload_n 0) 50 := ⟨1, rfl, Or.inr rfl, rfl⟩
set_option maxRecDepth 100000 in
theorem lk154_50 : xAt kT154 50 (.getfield 88) 53 := ⟨3, rfl, Or.inr rfl, rfl⟩
set_option maxRecDepth 100000 in
theorem lk154_53 : xAt kT154 53 (.if_icmp .le 16) 56 := ⟨3, rfl, Or.inr rfl, rfl⟩
set_option maxRecDepth 100000 in
theorem lk154_56 : xAt kT154 56 (.iload_n 2) 57 := ⟨1, rfl, Or.inr rfl, rfl⟩
set_option maxRecDepth 100000 in
theorem lk154_57 : xAt kT154 57 (.ifCond .ne 12) 60 := ⟨3, rfl, Or.inr rfl, rfl⟩
set_option maxRecDepth 100000 in
theorem lk154_60 : xAt kT154 60 (.aload_n 0) 61 := ⟨1, rfl, Or.inr rfl, rfl⟩
set_option maxRecDepth 100000 in
theorem lk154_61 : xAt kT154 61 (.aload_n 1) 62 := ⟨1, rfl, Or.inr rfl, rfl⟩
set_option maxRecDepth 100000 in
theorem lk154_62 : xAt kT154 62 (.getfield 342) 65 := ⟨3, rfl, Or.inr rfl, rfl⟩
set_option maxRecDepth 100000 in
theorem lk154_65 : xAt kT154 65 (.iconst (-1)) 66 := ⟨1, rfl, Or.inr rfl, rfl⟩
set_option maxRecDepth 100000 in
theorem lk154_66 : xAt kT154 66 (.invokevirtual 438) 69 := ⟨3, rfl, Or.inr rfl, rfl⟩
set_option maxRecDepth 100000 in
theorem lk154_69 : xAt kT154 69 (.aload_n 1) 70 := ⟨1, rfl, Or.inr rfl, rfl⟩
set_option maxRecDepth 100000 in
theorem lk154_70 : xAt kT154 70 (.getfield 339) 73 := ⟨3, rfl, Or.inr rfl, rfl⟩
set_option maxRecDepth 100000 in
theorem lk154_73 : xAt kT154 73 (.tableswitch 131 1 9 #[51, 59, 67, 75, 83, 99, 107, 115, 123]) 124 := ⟨51, rfl, Or.inl rfl, rfl⟩
set_option maxRecDepth 100000 in
theorem lk154_124 : xAt kT154 124 (.aload_n 0) 125 := ⟨1, rfl, Or.inr rfl, rfl⟩
set_option maxRecDepth 100000 in
theorem lk154_125 : xAt kT154 125 (.aload_n 1) 126 := ⟨1, rfl, Or.inr rfl, rfl⟩
set_option maxRecDepth 100000 in
theorem lk154_126 : xAt kT154 126 (.invokevirtual 468) 129 := ⟨3, rfl, Or.inr rfl, rfl⟩
set_option maxRecDepth 100000 in
theorem lk154_129 : xAt kT154 129 (.goto 75) 132 := ⟨3, rfl, Or.inr rfl, rfl⟩
set_option maxRecDepth 100000 in
theorem lk154_132 : xAt kT154 132 (.aload_n 0) 133 := ⟨1, rfl, Or.inr rfl, rfl⟩
set_option maxRecDepth 100000 in
theorem lk154_133 : xAt kT154 133 (.aload_n 1) 134 := ⟨1, rfl, Or.inr rfl, rfl⟩
set_option maxRecDepth 100000 in
theorem lk154_134 : xAt kT154 134 (.invokevirtual 471) 137 := ⟨3, rfl, Or.inr rfl, rfl⟩
set_option maxRecDepth 100000 in
theorem lk154_137 : xAt kT154 137 (.goto 67) 140 := ⟨3, rfl, Or.inr rfl, rfl⟩
set_option maxRecDepth 100000 in
theorem lk154_140 : xAt kT154 140 (.aload_n 0) 141 := ⟨1, rfl, Or.inr rfl, rfl⟩
set_option maxRecDepth 100000 in
theorem lk154_141 : xAt kT154 141 (.aload_n 1) 142 := ⟨1, rfl, Or.inr rfl, rfl⟩
set_option maxRecDepth 100000 in
theorem lk154_142 : xAt kT154 142 (.invokevirtual 474) 145 := ⟨3, rfl, Or.inr rfl, rfl⟩
set_option maxRecDepth 100000 in
theorem lk154_145 : xAt kT154 145 (.goto 59) 148 := ⟨3, rfl, Or.inr rfl, rfl⟩
set_option maxRecDepth 100000 in
theorem lk154_148 : xAt kT154 148 (.aload_n 0) 149 := ⟨1, rfl, Or.inr rfl, rfl⟩
set_option maxRecDepth 100000 in
theorem lk154_149 : xAt kT154 149 (.aload_n 1) 150 := ⟨1, rfl, Or.inr rfl, rfl⟩
set_option maxRecDepth 100000 in
theorem lk154_150 : xAt kT154 150 (.invokevirtual 477) 153 := ⟨3, rfl, Or.inr rfl, rfl⟩
set_option maxRecDepth 100000 in
theorem lk154_153 : xAt kT154 153 (.goto 51) 156 := ⟨3, rfl, Or.inr rfl, rfl⟩
set_option maxRecDepth 100000 in
theorem lk154_156 : xAt kT154 156 (.aload_n 0) 157 := ⟨1, rfl, Or.inr rfl, rfl⟩
set_option maxRecDepth 100000 in
theorem lk154_157 : xAt kT154 157 (.aload_n 1) 158 := ⟨1, rfl, Or.inr rfl, rfl⟩
set_option maxRecDepth 100000 in
theorem lk154_158 : xAt kT154 158 (.invokevirtual 480) 161 := ⟨3, rfl, Or.inr rfl, rfl⟩
set_option maxRecDepth 100000 in
theorem lk154_161 : xAt kT154 161 (.ifCond .eq 43) 164 := ⟨3, rfl, Or.inr rfl, rfl⟩
set_option maxRecDepth 100000 in
theorem lk154_164 : xAt kT154 164 (.aload_n 0) 165 := ⟨1, rfl, Or.inr rfl, rfl⟩
set_option maxRecDepth 100000 in
theorem lk154_165 : xAt kT154 165 (.aload_n 1) 166 := ⟨1, rfl, Or.inr rfl, rfl⟩
set_option maxRecDepth 100000 in
theorem lk154_166 : xAt kT154 166 (.invokevirtual 484) 169 := ⟨3, rfl, Or.inr rfl, rfl⟩
set_option maxRecDepth 100000 in
theorem lk154_169 : xAt kT154 169 (.goto 35) 172 := ⟨3, rfl, Or.inr rfl, rfl⟩
set_option maxRecDepth 100000 in
theorem lk154_172 : xAt kT154 172 (.aload_n 0) 173 := ⟨1, rfl, Or.inr rfl, rfl⟩
set_option maxRecDepth 100000 in
theorem lk154_173 : xAt kT154 173 (.aload_n 1) 174 := ⟨1, rfl, Or.inr rfl, rfl⟩
set_option maxRecDepth 100000 in
theorem lk154_174 : xAt kT154 174 (.invokevirtual 487) 177 := ⟨3, rfl, Or.inr rfl, rfl⟩
set_option maxRecDepth 100000 in
theorem lk154_177 : xAt kT154 177 (.goto 27) 180 := ⟨3, rfl, Or.inr rfl, rfl⟩
set_option maxRecDepth 100000 in
theorem lk154_180 : xAt kT154 180 (.aload_n 0) 181 := ⟨1, rfl, Or.inr rfl, rfl⟩
set_option maxRecDepth 100000 in
theorem lk154_181 : xAt kT154 181 (.aload_n 1) 182 := ⟨1, rfl, Or.inr rfl, rfl⟩
set_option maxRecDepth 100000 in
theorem lk154_182 : xAt kT154 182 (.invokevirtual 490) 185 := ⟨3, rfl, Or.inr rfl, rfl⟩
set_option maxRecDepth 100000 in
theorem lk154_185 : xAt kT154 185 (.goto 19) 188 := ⟨3, rfl, Or.inr rfl, rfl⟩
set_option maxRecDepth 100000 in
theorem lk154_188 : xAt kT154 188 (.aload_n 0) 189 := ⟨1, rfl, Or.inr rfl, rfl⟩
set_option maxRecDepth 100000 in
theorem lk154_189 : xAt kT154 189 (.aload_n 1) 190 := ⟨1, rfl, Or.inr rfl, rfl⟩
set_option maxRecDepth 100000 in
theorem lk154_190 : xAt kT154 190 (.invokevirtual 493) 193 := ⟨3, rfl, Or.inr rfl, rfl⟩
set_option maxRecDepth 100000 in
theorem lk154_193 : xAt kT154 193 (.goto 11) 196 := ⟨3, rfl, Or.inr rfl, rfl⟩
set_option maxRecDepth 100000 in
theorem lk154_196 : xAt kT154 196 (.aload_n 0) 197 := ⟨1, rfl, Or.inr rfl, rfl⟩
set_option maxRecDepth 100000 in
theorem lk154_197 : xAt kT154 197 (.aload_n 1) 198 := ⟨1, rfl, Or.inr rfl, rfl⟩
set_option maxRecDepth 100000 in
theorem lk154_198 : xAt kT154 198 (.invokevirtual 496) 201 := ⟨3, rfl, Or.inr rfl, rfl⟩
set_option maxRecDepth 100000 in
theorem lk154_201 : xAt kT154 201 (.goto 3) 204 := ⟨3, rfl, Or.inr rfl, rfl⟩
set_option maxRecDepth 100000 in
theorem lk154_204 : xAt kT154 204 (.return_) 205 := ⟨1, rfl, Or.inr rfl, rfl⟩
set_option maxRecDepth 100000 in
theorem lk158_0 : xAt kT158 0 (.aload_n 0) 1 := ⟨1, rfl, Or.inr rfl, rfl⟩
set_option maxRecDepth 100000 in
theorem lk158_1 : xAt kT158 1 (.getfield 85) 4 := ⟨3, rfl, Or.inr rfl, rfl⟩
set_option maxRecDepth 100000 in
theorem lk158_4 : xAt kT158 4 (.iconst 3) 5 := ⟨1, rfl, Or.inr rfl, rfl⟩
set_option maxRecDepth 100000 in
theorem lk158_5 : xAt kT158 5 (.if_icmp .ne 14) 8 := ⟨3, rfl, Or.inr rfl, rfl⟩
set_option maxRecDepth 100000 in
theorem lk158_8 : xAt kT158 8 (.aload_n 0) 9 := ⟨1, rfl, Or.inr rfl, rfl⟩
set_option maxRecDepth 100000 in
theorem lk158_9 : xAt kT158 9 (.invokevirtual 373) 12 := ⟨3, rfl, Or.inr rfl, rfl⟩
set_option maxRecDepth 100000 in
theorem lk158_12 : xAt kT158 12 (.iload_n 1) 13 := ⟨1, rfl, Or.inr rfl, rfl⟩
set_option maxRecDepth 100000 in
theorem lk158_13 : xAt kT158 13 (.ishr) 14 := ⟨1, rfl, Or.inr rfl, rfl⟩
set_option maxRecDepth 100000 in
theorem lk158_14 : xAt kT158 14 (.iconst 1) 15 := ⟨1, rfl, Or.inr rfl, rfl⟩
set_option maxRecDepth 100000 in
theorem lk158_15 : xAt kT158 15 (.iand) 16 := ⟨1, rfl, Or.inr rfl, rfl⟩
set_option maxRecDepth 100000 in
theorem lk158_16 : xAt kT158 16 (.ifCond .ne 4) 19 := ⟨3, rfl, Or.inr rfl, rfl⟩
set_option maxRecDepth 100000 in
theorem lk158_19 : xAt kT158 19 (.return_) 20 := ⟨1, rfl, Or.inr rfl, rfl⟩
set_option maxRecDepth 100000 in
theorem lk158_20 : xAt kT158 20 (.aload_n 0) 21 := ⟨1, rfl, Or.inr rfl, rfl⟩
set_option maxRecDepth 100000 in
theorem lk158_21 : xAt kT158 21 (.iload_n 1) 22 := ⟨1, rfl, Or.inr rfl, rfl⟩
set_option maxRecDepth 100000 in
theorem lk158_22 : xAt kT158 22 (.iconst 0) 23 := ⟨1, rfl, Or.inr rfl, rfl⟩
set_option maxRecDepth 100000 in
theorem lk158_23 : xAt kT158 23 (.invokevirtual 376) 26 := ⟨3, rfl, Or.inr rfl, rfl⟩
set_option maxRecDepth 100000 in
theorem lk158_26 : xAt kT158 26 (.aload_n 0) 27 := ⟨1, rfl, Or.inr rfl, rfl⟩
set_option maxRecDepth 100000 in
theorem lk158_27 : xAt kT158 27 (.getfield 21) 30 := ⟨3, rfl, Or.inr rfl, rfl⟩
set_option maxRecDepth 100000 in
theorem lk158_30 : xAt kT158 30 (.getfield 112) 33 := ⟨3, rfl, Or.inr rfl, rfl⟩
set_option maxRecDepth 100000 in
theorem lk158_33 : xAt kT158 33 (.iload_n 1) 34 := ⟨1, rfl, Or.inr rfl, rfl⟩
set_option maxRecDepth 100000 in
theorem lk158_34 : xAt kT158 34 (.if_icmp .ne 33) 37 := ⟨3, rfl, Or.inr rfl, rfl⟩
set_option maxRecDepth 100000 in
theorem lk158_37 : xAt kT158 37 (.aload_n 0) 38 := ⟨1, rfl, Or.inr rfl, rfl⟩
set_option maxRecDepth 100000 in
theorem lk158_38 : xAt kT158 38 (.getfield 21) 41 := ⟨3, rfl, Or.inr rfl, rfl⟩
set_option maxRecDepth 100000 in
theorem lk158_41 : xAt kT158 41 (.getfield 459) 44 := ⟨3, rfl, Or.inr rfl, rfl⟩
set_option maxRecDepth 100000 in
theorem lk158_44 : xAt kT158 44 (.iload_n 1) 45 := ⟨1, rfl, Or.inr rfl, rfl⟩
set_option maxRecDepth 100000 in
theorem lk158_45 : xAt kT158 45 (.iaload) 46 := ⟨1, rfl, Or.inr rfl, rfl⟩
set_option maxRecDepth 100000 in
theorem lk158_46 : xAt kT158 46 (.aload_n 0) 47 := ⟨1, rfl, Or.inr rfl, rfl⟩
set_option maxRecDepth 100000 in
theorem lk158_47 : xAt kT158 47 (.getfield 72) 50 := ⟨3, rfl, Or.inr rfl, rfl⟩
set_option maxRecDepth 100000 in
theorem lk158_50 : xAt kT158 50 (.getfield 103) 53 := ⟨3, rfl, Or.inr rfl, rfl⟩
set_option maxRecDepth 100000 in
theorem lk158_53 : xAt kT158 53 (.if_icmp .ne 14) 56 := ⟨3, rfl, Or.inr rfl, rfl⟩
set_option maxRecDepth 100000 in
theorem lk158_56 : xAt kT158 56 (.aload_n 0) 57 := ⟨1, rfl, Or.inr rfl, rfl⟩
set_option maxRecDepth 100000 in
theorem lk158_57 : xAt kT158 57 (.aload_n 0) 58 := ⟨1, rfl, Or.inr rfl, rfl⟩
set_option maxRecDepth 100000 in
theorem lk158_58 : xAt kT158 58 (.iload_n 1) 59 := ⟨1, rfl, Or.inr rfl, rfl⟩
set_option maxRecDepth 100000 in
theorem lk158_59 : xAt kT158 59 (.bipush 9) 61 := ⟨2, rfl, Or.inr rfl, rfl⟩
set_option maxRecDepth 100000 in
theorem lk158_61 : xAt kT158 61 (.invokevirtual 351) 64 := ⟨3, rfl, Or.inr rfl, rfl⟩
set_option maxRecDepth 100000 in
theorem lk158_64 : xAt kT158 64 (.invokevirtual 362) 67 := ⟨3, rfl, Or.inr rfl, rfl⟩
set_option maxRecDepth 100000 in
theorem lk158_67 : xAt kT158 67 (.return_) 68 := ⟨1, rfl, Or.inr rfl, rfl⟩
set_option maxRecDepth 100000 in
theorem lk161_0 : xAt kT161 0 (.aload_n 0) 1 := ⟨1, rfl, Or.inr rfl, rfl⟩
set_option maxRecDepth 100000 in
theorem lk161_1 : xAt kT161 1 (.invokevirtual 373) 4 := ⟨3, rfl, Or.inr rfl, rfl⟩
set_option maxRecDepth 100000 in
theorem lk161_4 : xAt kT161 4 (.istore_n 2) 5 := ⟨1, rfl, Or.inr rfl, rfl⟩
set_option maxRecDepth 100000 in
theorem lk161_5 : xAt kT161 5 (.iconst 0) 6 := ⟨1, rfl, Or.inr rfl, rfl⟩
set_option maxRecDepth 100000 in
theorem lk161_6 : xAt kT161 6 (.istore_n 3) 7 := ⟨1, rfl, Or.inr rfl, rfl⟩
set_option maxRecDepth 100000 in
theorem lk161_7 : xAt kT161 7 (.iload_n 3) 8 := ⟨1, rfl, Or.inr rfl, rfl⟩
set_option maxRecDepth 100000 in
theorem lk161_8 : xAt kT161 8 (.bipush 7) 10 := ⟨2, rfl, Or.inr rfl, rfl⟩
set_option maxRecDepth 100000 in
theorem lk161_10 : xAt kT161 10 (.if_icmp .ge 23) 13 := ⟨3, rfl, Or.inr rfl, rfl⟩
set_option maxRecDepth 100000 in
theorem lk161_13 : xAt kT161 13 (.iload_n 2) 14 := ⟨1, rfl, Or.inr rfl, rfl⟩
set_option maxRecDepth 100000 in
theorem lk161_14 : xAt kT161 14 (.iload_n 3) 15 := ⟨1, rfl, Or.inr rfl, rfl⟩
set_option maxRecDepth 100000 in
theorem lk161_15 : xAt kT161 15 (.ishr) 16 := ⟨1, rfl, Or.inr rfl, rfl⟩
set_option maxRecDepth 100000 in
theorem lk161_16 : xAt kT161 16 (.iconst 1) 17 := ⟨1, rfl, Or.inr rfl, rfl⟩
set_option maxRecDepth 100000 in
theorem lk161_17 : xAt kT161 17 (.iand) 18 := ⟨1, rfl, Or.inr rfl, rfl⟩
set_option maxRecDepth 100000 in
theorem lk161_18 : xAt kT161 18 (.ifCond .eq 9) 21 := ⟨3, rfl, Or.inr rfl, rfl⟩
set_option maxRecDepth 100000 in
theorem lk161_21 : xAt kT161 21 (.aload_n 0) 22 := ⟨1, rfl, Or.inr rfl, rfl⟩
set_option maxRecDepth 100000 in
theorem lk161_22 : xAt kT161 22 (.iload_n 3) 23 := ⟨1, rfl, Or.inr rfl, rfl⟩
set_option maxRecDepth 100000 in
theorem lk161_23 : xAt kT161 23 (.iload_n 1) 24 := ⟨1, rfl, Or.inr rfl, rfl⟩
set_option maxRecDepth 100000 in
theorem lk161_24 : xAt kT161 24 (.invokevirtual 376) 27 := ⟨3, rfl, Or.inr rfl, rfl⟩
set_option maxRecDepth 100000 in
theorem lk161_27 : xAt kT161 27 (.iinc 3 1) 30 := ⟨3, rfl, Or.inr rfl, rfl⟩
set_option maxRecDepth 100000 in
theorem lk161_30 : xAt kT161 30 (.goto (-23)) 33 := ⟨3, rfl, Or.inr rfl, rfl⟩
set_option maxRecDepth 100000 in
theorem lk161_33 : xAt kT161 33 (.return_) 34 := ⟨1, rfl, Or.inr rfl, rfl⟩
set_option maxRecDepth 100000 in
theorem lk163_0 : xAt kT163 0 (.aload_n 0) 1 := ⟨1, rfl, Or.inr rfl, rfl⟩
set_option maxRecDepth 100000 in
theorem lk163_1 : xAt kT163 1 (.aload_n 0) 2 := ⟨1, rfl, Or.inr rfl, rfl⟩
set_option maxRecDepth 100000 in
theorem lk163_2 : xAt kT163 2 (.getfield 72) 5 := ⟨3, rfl, Or.inr rfl, rfl⟩
set_option maxRecDepth 100000 in
theorem lk163_5 : xAt kT163 5 (.aload_n 0) 6 := ⟨1, rfl, Or.inr rfl, rfl⟩
set_option maxRecDepth 100000 in
theorem lk163_6 : xAt kT163 6 (.getfield 88) 9 := ⟨3, rfl, Or.inr rfl, rfl⟩
set_option maxRecDepth 100000 in
theorem lk163_9 : xAt kT163 9 (.iconst 1) 10 := ⟨1, rfl, Or.inr rfl, rfl⟩
set_option maxRecDepth 100000 in
theorem lk163_10 : xAt kT163 10 (.iconst 4) 11 := ⟨1, rfl, Or.inr rfl, rfl⟩
set_option maxRecDepth 100000 in
theorem lk163_11 : xAt kT163 11 (.iload_n 1) 12 := ⟨1, rfl, Or.inr rfl, rfl⟩
set_option maxRecDepth 100000 in
theorem lk163_12 : xAt kT163 12 (.iconst 0) 13 := ⟨1, rfl, Or.inr rfl, rfl⟩
set_option maxRecDepth 100000 in
theorem lk163_13 : xAt kT163 13 (.iconst (-1)) 14 := ⟨1, rfl, Or.inr rfl, rfl⟩
set_option maxRecDepth 100000 in
theorem lk163_14 : xAt kT163 14 (.invokevirtual 447) 17 := ⟨3, rfl, Or.inr rfl, rfl⟩
set_option maxRecDepth 100000 in
theorem lk163_17 : xAt kT163 17 (.iconst 0) 18 := ⟨1, rfl, Or.inr rfl, rfl⟩
set_option maxRecDepth 100000 in
theorem lk163_18 : xAt kT163 18 (.invokevirtual 451) 21 := ⟨3, rfl, Or.inr rfl, rfl⟩
set_option maxRecDepth 100000 in
theorem lk163_21 : xAt kT163 21 (.aload_n 0) 22 := ⟨1, rfl, Or.inr rfl, rfl⟩
set_option maxRecDepth 100000 in
theorem lk163_22 : xAt kT163 22 (.iconst 0) 23 := ⟨1, rfl, Or.inr rfl, rfl⟩
set_option maxRecDepth 100000 in
theorem lk163_23 : xAt kT163 23 (.invokevirtual 162) 26 := ⟨3, rfl, Or.inr rfl, rfl⟩
set_option maxRecDepth 100000 in
theorem lk163_26 : xAt kT163 26 (.return_) 27 := ⟨1, rfl, Or.inr rfl, rfl⟩
set_option maxRecDepth 100000 in
theorem lk171_0 : xAt kT171 0 (.aload_n 0) 1 := ⟨1, rfl, Or.inr rfl, rfl⟩
set_option maxRecDepth 100000 in
theorem lk171_1 : xAt kT171 1 (.getfield 146) 4 := ⟨3, rfl, Or.inr rfl, rfl⟩
set_option maxRecDepth 100000 in
theorem lk171_4 : xAt kT171 4 (.iload_n 1) 5 := ⟨1, rfl, Or.inr rfl, rfl⟩
set_option maxRecDepth 100000 in
theorem lk171_5 : xAt kT171 5 (.iand) 6 := ⟨1, rfl, Or.inr rfl, rfl⟩
set_option maxRecDepth 100000 in
theorem lk171_6 : xAt kT171 6 (.ifCond .eq 7) 9 := ⟨3, rfl, Or.inr rfl, rfl⟩
set_option maxRecDepth 100000 in
theorem lk171_9 : xAt kT171 9 (.iconst 1) 10 := ⟨1, rfl, Or.inr rfl, rfl⟩
set_option maxRecDepth 100000 in
theorem lk171_10 : xAt kT171 10 (.goto 4) 13 := ⟨3, rfl, Or.inr rfl, rfl⟩
set_option maxRecDepth 100000 in
theorem lk171_13 : xAt kT171 13 (.iconst 0) 14 := ⟨1, rfl, Or.inr rfl, rfl⟩
set_option maxRecDepth 100000 in
theorem lk171_14 : xAt kT171 14 (.istore_n 2) 15 := ⟨1, rfl, Or.inr rfl, rfl⟩
set_option maxRecDepth 100000 in
theorem lk171_15 : xAt kT171 15 (.aload_n 0) 16 := ⟨1, rfl, Or.inr rfl, rfl⟩
set_option maxRecDepth 100000 in
theorem lk171_16 : xAt kT171 16 (.dup) 17 := ⟨1, rfl, Or.inr rfl, rfl⟩
set_option maxRecDepth 100000 in
theorem lk171_17 : xAt kT171 17 (.getfield 146) 20 := ⟨3, rfl, Or.inr rfl, rfl⟩
set_option maxRecDepth 100000 in
theorem lk171_20 : xAt kT171 20 (.iload_n 1) 21 := ⟨1, rfl, Or.inr rfl, rfl⟩
set_option maxRecDepth 100000 in
theorem lk171_21 : xAt kT171 21 (.iconst (-1)) 22 := ⟨1, rfl, Or.inr rfl, rfl⟩
set_option maxRecDepth 100000 in
theorem lk171_22 : xAt kT171 22 (.ixor) 23 := ⟨1, rfl, Or.inr rfl, rfl⟩
set_option maxRecDepth 100000 in
theorem lk171_23 : xAt kT171 23 (.iand) 24 := ⟨1, rfl, Or.inr rfl, rfl⟩
set_option maxRecDepth 100000 in
theorem lk171_24 : xAt kT171 24 (.putfield 146) 27 := ⟨3, rfl, Or.inr rfl, rfl⟩
set_option maxRecDepth 100000 in
theorem lk171_27 : xAt kT171 27 (.iload_n 2) 28 := ⟨1, rfl, Or.inr rfl, rfl⟩
set_option maxRecDepth 100000 in
theorem lk171_28 : xAt kT171 28 (.ireturn) 29 := ⟨1, rfl, Or.inr rfl, rfl⟩
set_option maxRecDepth 100000 in
theorem lk174_0 : xAt kT174 0 (.aload_n 0) 1 := ⟨1, rfl, Or.inr rfl, rfl⟩
set_option maxRecDepth 100000 in
theorem lk174_1 : xAt kT174 1 (.getfield 72) 4 := ⟨3, rfl, Or.inr rfl, rfl⟩
set_option maxRecDepth 100000 in
theorem lk174_4 : xAt kT174 4 (.invokevirtual 326) 7 := ⟨3, rfl, Or.inr rfl, rfl⟩
set_option maxRecDepth 100000 in
theorem lk174_7 : xAt kT174 7 (.sipush 300) 10 := ⟨3, rfl, Or.inr rfl, rfl⟩
set_option maxRecDepth 100000 in
theorem lk174_10 : xAt kT174 10 (.if_icmp .lt 13) 13 := ⟨3, rfl, Or.inr rfl, rfl⟩
set_option maxRecDepth 100000 in
theorem lk174_13 : xAt kT174 13 (.aload_n 0) 14 := ⟨1, rfl, Or.inr rfl, rfl⟩
set_option maxRecDepth 100000 in
theorem lk174_14 : xAt kT174 14 (.aload_n 0) 15 := ⟨1, rfl, Or.inr rfl, rfl⟩
set_option maxRecDepth 100000 in
theorem lk174_15 : xAt kT174 15 (.getfield 88) 18 := ⟨3, rfl, Or.inr rfl, rfl⟩
set_option maxRecDepth 100000 in
theorem lk174_18 : xAt kT174 18 (.iconst (-1)) 19 := ⟨1, rfl, Or.inr rfl, rfl⟩
set_option maxRecDepth 100000 in
theorem lk174_19 : xAt kT174 19 (.invokevirtual 438) 22 := ⟨3, rfl, Or.inr rfl, rfl⟩
set_option maxRecDepth 100000 in
theorem lk174_22 : xAt kT174 22 (.return_) 23 := ⟨1, rfl, Or.inr rfl, rfl⟩
set_option maxRecDepth 100000 in
theorem lk174_23 : xAt kT174 23 (.aload_n 0) 24 := ⟨1, rfl, Or.inr rfl, rfl⟩
set_option maxRecDepth 100000 in
theorem lk174_24 : xAt kT174 24 (.iconst 3) 25 := ⟨1, rfl, Or.inr rfl, rfl⟩
set_option maxRecDepth 100000 in
theorem lk174_25 : xAt kT174 25 (.putfield 85) 28 := ⟨3, rfl, Or.inr rfl, rfl⟩
set_option maxRecDepth 100000 in
theorem lk174_28 : xAt kT174 28 (.aload_n 0) 29 := ⟨1, rfl, Or.inr rfl, rfl⟩
set_option maxRecDepth 100000 in
theorem lk174_29 : xAt kT174 29 (.aload_n 0) 30 := ⟨1, rfl, Or.inr rfl, rfl⟩
set_option maxRecDepth 100000 in
theorem lk174_30 : xAt kT174 30 (.getfield 60) 33 := ⟨3, rfl, Or.inr rfl, rfl⟩
set_option maxRecDepth 100000 in
theorem lk174_33 : xAt kT174 33 (.putfield 47) 36 := ⟨3, rfl, Or.inr rfl, rfl⟩
set_option maxRecDepth 100000 in
theorem lk174_36 : xAt kT174 36 (.aload_n 0) 37 := ⟨1, rfl, Or.inr rfl, rfl⟩
set_option maxRecDepth 100000 in
theorem lk174_37 : xAt kT174 37 (.getfield 21) 40 := ⟨3, rfl, Or.inr rfl, rfl⟩
set_option maxRecDepth 100000 in
theorem lk174_40 : xAt kT174 40 (.aload_n 0) 41 := ⟨1, rfl, Or.inr rfl, rfl⟩
set_option maxRecDepth 100000 in
theorem lk174_41 : xAt kT174 41 (.getfield 72) 44 := ⟨3, rfl, Or.inr rfl, rfl⟩
set_option maxRecDepth 100000 in
theorem lk174_44 : xAt kT174 44 (.getfield 103) 47 := ⟨3, rfl, Or.inr rfl, rfl⟩
set_option maxRecDepth 100000 in
theorem lk174_47 : xAt kT174 47 (.aload_n 0) 48 := ⟨1, rfl, Or.inr rfl, rfl⟩
set_option maxRecDepth 100000 in
theorem lk174_48 : xAt kT174 48 (.getfield 63) 51 := ⟨3, rfl, Or.inr rfl, rfl⟩
set_option maxRecDepth 100000 in
theorem lk174_51 : xAt kT174 51 (.getfield 241) 54 := ⟨3, rfl, Or.inr rfl, rfl⟩
set_option maxRecDepth 100000 in
theorem lk174_54 : xAt kT174 54 (.invokevirtual 244) 57 := ⟨3, rfl, Or.inr rfl, rfl⟩
set_option maxRecDepth 100000 in
theorem lk174_57 : xAt kT174 57 (.aload_n 0) 58 := ⟨1, rfl, Or.inr rfl, rfl⟩
set_option maxRecDepth 100000 in
theorem lk174_58 : xAt kT174 58 (.aload_n 0) 59 := ⟨1, rfl, Or.inr rfl, rfl⟩
set_option maxRecDepth 100000 in
theorem lk174_59 : xAt kT174 59 (.getfield 72) 62 := ⟨3, rfl, Or.inr rfl, rfl⟩
set_option maxRecDepth 100000 in
theorem lk174_62 : xAt kT174 62 (.aload_n 0) 63 := ⟨1, rfl, Or.inr rfl, rfl⟩
set_option maxRecDepth 100000 in
theorem lk174_63 : xAt kT174 63 (.getfield 88) 66 := ⟨3, rfl, Or.inr rfl, rfl⟩
set_option maxRecDepth 100000 in
theorem lk174_66 : xAt kT174 66 (.iconst 0) 67 := ⟨1, rfl, Or.inr rfl, rfl⟩
set_option maxRecDepth 100000 in
theorem lk174_67 : xAt kT174 67 (.iconst 0) 68 := ⟨1, rfl, Or.inr rfl, rfl⟩
set_option maxRecDepth 100000 in
theorem lk174_68 : xAt kT174 68 (.iconst 0) 69 := ⟨1, rfl, Or.inr rfl, rfl⟩
set_option maxRecDepth 100000 in
theorem lk174_69 : xAt kT174 69 (.iconst 0) 70 := ⟨1, rfl, Or.inr rfl, rfl⟩
set_option maxRecDepth 100000 in
theorem lk174_70 : xAt kT174 70 (.iconst (-1)) 71 := ⟨1, rfl, Or.inr rfl, rfl⟩
set_option maxRecDepth 100000 in
theorem lk174_71 : xAt kT174 71 (.invokevirtual 447) 74 := ⟨3, rfl, Or.inr rfl, rfl⟩
set_option maxRecDepth 100000 in
theorem lk174_74 : xAt kT174 74 (.iconst 0) 75 := ⟨1, rfl, Or.inr rfl, rfl⟩
set_option maxRecDepth 100000 in
theorem lk174_75 : xAt kT174 75 (.invokevirtual 451) 78 := ⟨3, rfl, Or.inr rfl, rfl⟩
set_option maxRecDepth 100000 in
theorem lk174_78 : xAt kT174 78 (.aload_n 0) 79 := ⟨1, rfl, Or.inr rfl, rfl⟩
set_option maxRecDepth 100000 in
theorem lk174_79 : xAt kT174 79 (.dup) 80 := ⟨1, rfl, Or.inr rfl, rfl⟩
set_option maxRecDepth 100000 in
theorem lk174_80 : xAt kT174 80 (.getfield 146) 83 := ⟨3, rfl, Or.inr rfl, rfl⟩
set_option maxRecDepth 100000 in
theorem lk174_83 : xAt kT174 83 (.iconst 4) 84 := ⟨1, rfl, Or.inr rfl, rfl⟩
set_option maxRecDepth 100000 in
theorem lk174_84 : xAt kT174 84 (.ior) 85 := ⟨1, rfl, Or.inr rfl, rfl⟩
set_option maxRecDepth 100000 in
theorem lk174_85 : xAt kT174 85 (.putfield 146) 88 := ⟨3, rfl, Or.inr rfl, rfl⟩
set_option maxRecDepth 100000 in
theorem lk174_88 : xAt kT174 88 (.return_) 89 := ⟨1, rfl, Or.inr rfl, rfl⟩
set_option maxRecDepth 100000 in
theorem lk164_0 : xAt kT164 0 (.aload_n 0) 1 := ⟨1, rfl, Or.inr rfl, rfl⟩
set_option maxRecDepth 100000 in
theorem lk164_1 : xAt kT164 1 (.iconst 1) 2 := ⟨1, rfl, Or.inr rfl, rfl⟩
set_option maxRecDepth 100000 in
theorem lk164_2 : xAt kT164 2 (.invokevirtual 149) 5 := ⟨3, rfl, Or.inr rfl, rfl⟩
set_option maxRecDepth 100000 in
theorem lk164_5 : xAt kT164 5 (.ifCond .eq 7) 8 := ⟨3, rfl, Or.inr rfl, rfl⟩
set_option maxRecDepth 100000 in
theorem lk164_8 : xAt kT164 8 (.aload_n 0) 9 := ⟨1, rfl, Or.inr rfl, rfl⟩
set_option maxRecDepth 100000 in
theorem lk164_9 : xAt kT164 9 (.invokevirtual 153) 12 := ⟨3, rfl, Or.inr rfl, rfl⟩
set_option maxRecDepth 100000 in
theorem lk164_12 : xAt kT164 12 (.aload_n 0) 13 := ⟨1, rfl, Or.inr rfl, rfl⟩
set_option maxRecDepth 100000 in
theorem lk164_13 : xAt kT164 13 (.iconst 2) 14 := ⟨1, rfl, Or.inr rfl, rfl⟩
set_option maxRecDepth 100000 in
theorem lk164_14 : xAt kT164 14 (.invokevirtual 149) 17 := ⟨3, rfl, Or.inr rfl, rfl⟩
set_option maxRecDepth 100000 in
theorem lk164_17 : xAt kT164 17 (.ifCond .eq 7) 20 := ⟨3, rfl, Or.inr rfl, rfl⟩
set_option maxRecDepth 100000 in
theorem lk164_20 : xAt kT164 20 (.aload_n 0) 21 := ⟨1, rfl, Or.inr rfl, rfl⟩
set_option maxRecDepth 100000 in
theorem lk164_21 : xAt kT164 21 (.invokevirtual 156) 24 := ⟨3, rfl, Or.inr rfl, rfl⟩
set_option maxRecDepth 100000 in
theorem lk164_24 : xAt kT164 24 (.aload_n 0) 25 := ⟨1, rfl, Or.inr rfl, rfl⟩
set_option maxRecDepth 100000 in
theorem lk164_25 : xAt kT164 25 (.iconst 4) 26 := ⟨1, rfl, Or.inr rfl, rfl⟩
set_option maxRecDepth 100000 in
theorem lk164_26 : xAt kT164 26 (.invokevirtual 149) 29 := ⟨3, rfl, Or.inr rfl, rfl⟩
set_option maxRecDepth 100000 in
theorem lk164_29 : xAt kT164 29 (.ifCond .eq 16) 32 := ⟨3, rfl, Or.inr rfl, rfl⟩
set_option maxRecDepth 100000 in
theorem lk164_32 : xAt kT164 32 (.aload_n 0) 33 := ⟨1, rfl, Or.inr rfl, rfl⟩
set_option maxRecDepth 100000 in
theorem lk164_33 : xAt kT164 33 (.invokevirtual 159) 36 := ⟨3, rfl, Or.inr rfl, rfl⟩
set_option maxRecDepth 100000 in
theorem lk164_36 : xAt kT164 36 (.aload_n 0) 37 := ⟨1, rfl, Or.inr rfl, rfl⟩
set_option maxRecDepth 100000 in
theorem lk164_37 : xAt kT164 37 (.iconst 1) 38 := ⟨1, rfl, Or.inr rfl, rfl⟩
set_option maxRecDepth 100000 in
theorem lk164_38 : xAt kT164 38 (.invokevirtual 162) 41 := ⟨3, rfl, Or.inr rfl, rfl⟩
set_option maxRecDepth 100000 in
theorem lk164_41 : xAt kT164 41 (.aload_n 0) 42 := ⟨1, rfl, Or.inr rfl, rfl⟩
set_option maxRecDepth 100000 in
theorem lk164_42 : xAt kT164 42 (.invokevirtual 166) 45 := ⟨3, rfl, Or.inr rfl, rfl⟩
set_option maxRecDepth 100000 in
theorem lk164_45 : xAt kT164 45 (.aload_n 0) 46 := ⟨1, rfl, Or.inr rfl, rfl⟩
set_option maxRecDepth 100000 in
theorem lk164_46 : xAt kT164 46 (.bipush 8) 48 := ⟨2, rfl, Or.inr rfl, rfl⟩
set_option maxRecDepth 100000 in
theorem lk164_48 : xAt kT164 48 (.invokevirtual 149) 51 := ⟨3, rfl, Or.inr rfl, rfl⟩
set_option maxRecDepth 100000 in
theorem lk164_51 : xAt kT164 51 (.ifCond .eq 7) 54 := ⟨3, rfl, Or.inr rfl, rfl⟩
set_option maxRecDepth 100000 in
theorem lk164_54 : xAt kT164 54 (.aload_n 0) 55 := ⟨1, rfl, Or.inr rfl, rfl⟩
set_option maxRecDepth 100000 in
theorem lk164_55 : xAt kT164 55 (.invokevirtual 169) 58 := ⟨3, rfl, Or.inr rfl, rfl⟩
set_option maxRecDepth 100000 in
theorem lk164_58 : xAt kT164 58 (.aload_n 0) 59 := ⟨1, rfl, Or.inr rfl, rfl⟩
set_option maxRecDepth 100000 in
theorem lk164_59 : xAt kT164 59 (.bipush 16) 61 := ⟨2, rfl, Or.inr rfl, rfl⟩
set_option maxRecDepth 100000 in
theorem lk164_61 : xAt kT164 61 (.invokevirtual 149) 64 := ⟨3, rfl, Or.inr rfl, rfl⟩
set_option maxRecDepth 100000 in
theorem lk164_64 : xAt kT164 64 (.ifCond .eq 15) 67 := ⟨3, rfl, Or.inr rfl, rfl⟩
set_option maxRecDepth 100000 in
theorem lk164_67 : xAt kT164 67 (.aload_n 0) 68 := ⟨1, rfl, Or.inr rfl, rfl⟩
set_option maxRecDepth 100000 in
theorem lk164_68 : xAt kT164 68 (.invokevirtual 172) 71 := ⟨3, rfl, Or.inr rfl, rfl⟩
set_option maxRecDepth 100000 in
theorem lk164_71 : xAt kT164 71 (.aload_n 0) 72 := ⟨1, rfl, Or.inr rfl, rfl⟩
set_option maxRecDepth 100000 in
theorem lk164_72 : xAt kT164 72 (.invokevirtual 166) 75 := ⟨3, rfl, Or.inr rfl, rfl⟩
set_option maxRecDepth 100000 in
theorem lk164_75 : xAt kT164 75 (.aload_n 0) 76 := ⟨1, rfl, Or.inr rfl, rfl⟩
set_option maxRecDepth 100000 in
theorem lk164_76 : xAt kT164 76 (.invokevirtual 175) 79 := ⟨3, rfl, Or.inr rfl, rfl⟩
set_option maxRecDepth 100000 in
theorem lk164_79 : xAt kT164 79 (.aload_n 0) 80 := ⟨1, rfl, Or.inr rfl, rfl⟩
set_option maxRecDepth 100000 in
theorem lk164_80 : xAt kT164 80 (.bipush 32) 82 := ⟨2, rfl, Or.inr rfl, rfl⟩
set_option maxRecDepth 100000 in
theorem lk164_82 : xAt kT164 82 (.invokevirtual 149) 85 := ⟨3, rfl, Or.inr rfl, rfl⟩
set_option maxRecDepth 100000 in
theorem lk164_85 : xAt kT164 85 (.ifCond .eq 7) 88 := ⟨3, rfl, Or.inr rfl, rfl⟩
set_option maxRecDepth 100000 in
theorem lk164_88 : xAt kT164 88 (.aload_n 0) 89 := ⟨1, rfl, Or.inr rfl, rfl⟩
set_option maxRecDepth 100000 in
theorem lk164_89 : xAt kT164 89 (.invokevirtual 178) 92 := ⟨3, rfl, Or.inr rfl, rfl⟩
set_option maxRecDepth 100000 in
theorem lk164_92 : xAt kT164 92 (.aload_n 0) 93 := ⟨1, rfl, Or.inr rfl, rfl⟩
set_option maxRecDepth 100000 in
theorem lk164_93 : xAt kT164 93 (.bipush 64) 95 := ⟨2, rfl, Or.inr rfl, rfl⟩
set_option maxRecDepth 100000 in
theorem lk164_95 : xAt kT164 95 (.invokevirtual 149) 98 := ⟨3, rfl, Or.inr rfl, rfl⟩
set_option maxRecDepth 100000 in
theorem lk164_98 : xAt kT164 98 (.ifCond .eq 8) 101 := ⟨3, rfl, Or.inr rfl, rfl⟩
set_option maxRecDepth 100000 in
theorem lk164_101 : xAt kT164 101 (.aload_n 0) 102 := ⟨1, rfl, Or.inr rfl, rfl⟩
set_option maxRecDepth 100000 in
theorem lk164_102 : xAt kT164 102 (.iconst 0) 103 := ⟨1, rfl, Or.inr rfl, rfl⟩
set_option maxRecDepth 100000 in
theorem lk164_103 : xAt kT164 103 (.invokevirtual 162) 106 := ⟨3, rfl, Or.inr rfl, rfl⟩
set_option maxRecDepth 100000 in
theorem lk164_106 : xAt kT164 106 (.aload_n 0) 107 := ⟨1, rfl, Or.inr rfl, rfl⟩
set_option maxRecDepth 100000 in
theorem lk164_107 : xAt kT164 107 (.sipush 128) 110 := ⟨3, rfl, Or.inr rfl, rfl⟩
set_option maxRecDepth 100000 in
theorem lk164_110 : xAt kT164 110 (.invokevirtual 149) 113 := ⟨3, rfl, Or.inr rfl, rfl⟩
set_option maxRecDepth 100000 in
theorem lk164_113 : xAt kT164 113 (.ifCond .eq 7) 116 := ⟨3, rfl, Or.inr rfl, rfl⟩
set_option maxRecDepth 100000 in
theorem lk164_116 : xAt kT164 116 (.aload_n 0) 117 := ⟨1, rfl, Or.inr rfl, rfl⟩
set_option maxRecDepth 100000 in
theorem lk164_117 : xAt kT164 117 (.invokevirtual 166) 120 := ⟨3, rfl, Or.inr rfl, rfl⟩
set_option maxRecDepth 100000 in
theorem lk164_120 : xAt kT164 120 (.aload_n 0) 121 := ⟨1, rfl, Or.inr rfl, rfl⟩
set_option maxRecDepth 100000 in
theorem lk164_121 : xAt kT164 121 (.sipush 256) 124 := ⟨3, rfl, Or.inr rfl, rfl⟩
set_option maxRecDepth 100000 in
theorem lk164_124 : xAt kT164 124 (.invokevirtual 149) 127 := ⟨3, rfl, Or.inr rfl, rfl⟩
set_option maxRecDepth 100000 in
theorem lk164_127 : xAt kT164 127 (.ifCond .eq 15) 130 := ⟨3, rfl, Or.inr rfl, rfl⟩
set_option maxRecDepth 100000 in
theorem lk164_130 : xAt kT164 130 (.aload_n 1) 131 := ⟨1, rfl, Or.inr rfl, rfl⟩
set_option maxRecDepth 100000 in
theorem lk164_131 : xAt kT164 131 (.ifnull 11) 134 := ⟨3, rfl, Or.inr rfl, rfl⟩
set_option maxRecDepth 100000 in
theorem lk164_134 : xAt kT164 134 (.aload_n 0) 135 := ⟨1, rfl, Or.inr rfl, rfl⟩
set_option maxRecDepth 100000 in
theorem lk164_135 : xAt kT164 135 (.aload_n 1) 136 := ⟨1, rfl, Or.inr rfl, rfl⟩
set_option maxRecDepth 100000 in
theorem lk164_136 : xAt kT164 136 (.getfield 181) 139 := ⟨3, rfl, Or.inr rfl, rfl⟩
set_option maxRecDepth 100000 in
theorem lk164_139 : xAt kT164 139 (.invokevirtual 186) 142 := ⟨3, rfl, Or.inr rfl, rfl⟩
set_option maxRecDepth 100000 in
theorem lk164_142 : xAt kT164 142 (.aload_n 0) 143 := ⟨1, rfl, Or.inr rfl, rfl⟩
set_option maxRecDepth 100000 in
theorem lk164_143 : xAt kT164 143 (.sipush 512) 146 := ⟨3, rfl, Or.inr rfl, rfl⟩
set_option maxRecDepth 100000 in
theorem lk164_146 : xAt kT164 146 (.invokevirtual 149) 149 := ⟨3, rfl, Or.inr rfl, rfl⟩
set_option maxRecDepth 100000 in
theorem lk164_149 : xAt kT164 149 (.ifCond .eq 24) 152 := ⟨3, rfl, Or.inr rfl, rfl⟩
set_option maxRecDepth 100000 in
theorem lk164_152 : xAt kT164 152 (.aload_n 1) 153 := ⟨1, rfl, Or.inr rfl, rfl⟩
set_option maxRecDepth 100000 in
theorem lk164_153 : xAt kT164 153 (.ifnull 20) 156 := ⟨3, rfl, Or.inr rfl, rfl⟩
set_option maxRecDepth 100000 in
theorem lk164_156 : xAt kT164 156 (.aload_n 0) 157 := ⟨1, rfl, Or.inr rfl, rfl⟩
set_option maxRecDepth 100000 in
theorem lk164_157 : xAt kT164 157 (.aload_n 1) 158 := ⟨1, rfl, Or.inr rfl, rfl⟩
set_option maxRecDepth 100000 in
theorem lk164_158 : xAt kT164 158 (.getfield 181) 161 := ⟨3, rfl, Or.inr rfl, rfl⟩
set_option maxRecDepth 100000 in
theorem lk164_161 : xAt kT164 161 (.iconst 1) 162 := ⟨1, rfl, Or.inr rfl, rfl⟩
set_option maxRecDepth 100000 in
theorem lk164_162 : xAt kT164 162 (.aload_n 1) 163 := ⟨1, rfl, Or.inr rfl, rfl⟩
set_option maxRecDepth 100000 in
theorem lk164_163 : xAt kT164 163 (.getfield 189) 166 := ⟨3, rfl, Or.inr rfl, rfl⟩
set_option maxRecDepth 100000 in
theorem lk164_166 : xAt kT164 166 (.aload_n 1) 167 := ⟨1, rfl, Or.inr rfl, rfl⟩
set_option maxRecDepth 100000 in
theorem lk164_167 : xAt kT164 167 (.getfield 192) 170 := ⟨3, rfl, Or.inr rfl, rfl⟩
set_option maxRecDepth 100000 in
theorem lk164_170 : xAt kT164 170 (.invokevirtual 193) 173 := ⟨3, rfl, Or.inr rfl, rfl⟩
set_option maxRecDepth 100000 in
theorem lk164_173 : xAt kT164 173 (.return_) 174 := ⟨1, rfl, Or.inr rfl, rfl⟩
set_option maxRecDepth 100000 in
theorem lk167_0 : xAt kT167 0 (.aload_n 0) 1 := ⟨1, rfl, Or.inr rfl, rfl⟩
set_option maxRecDepth 100000 in
theorem lk167_1 : xAt kT167 1 (.getfield 12) 4 := ⟨3, rfl, Or.inr rfl, rfl⟩
set_option maxRecDepth 100000 in
theorem lk167_4 : xAt kT167 4 (.invokevirtual 220) 7 := ⟨3, rfl, Or.inr rfl, rfl⟩
set_option maxRecDepth 100000 in
theorem lk167_7 : xAt kT167 7 (.aload_n 0) 8 := ⟨1, rfl, Or.inr rfl, rfl⟩
set_option maxRecDepth 100000 in
theorem lk167_8 : xAt kT167 8 (.iconst 0) 9 := ⟨1, rfl, Or.inr rfl, rfl⟩
set_option maxRecDepth 100000 in
theorem lk167_9 : xAt kT167 9 (.putfield 115) 12 := ⟨3, rfl, Or.inr rfl, rfl⟩
set_option maxRecDepth 100000 in
theorem lk167_12 : xAt kT167 12 (.aload_n 0) 13 := ⟨1, rfl, Or.inr rfl, rfl⟩
set_option maxRecDepth 100000 in
theorem lk167_13 : xAt kT167 13 (.invokevirtual 223) 16 := ⟨3, rfl, Or.inr rfl, rfl⟩
set_option maxRecDepth 100000 in
theorem lk167_16 : xAt kT167 16 (.aload_n 0) 17 := ⟨1, rfl, Or.inr rfl, rfl⟩
set_option maxRecDepth 100000 in
theorem lk167_17 : xAt kT167 17 (.getfield 72) 20 := ⟨3, rfl, Or.inr rfl, rfl⟩
set_option maxRecDepth 100000 in
theorem lk167_20 : xAt kT167 20 (.aload_n 0) 21 := ⟨1, rfl, Or.inr rfl, rfl⟩
set_option maxRecDepth 100000 in
theorem lk167_21 : xAt kT167 21 (.getfield 72) 24 := ⟨3, rfl, Or.inr rfl, rfl⟩
set_option maxRecDepth 100000 in
theorem lk167_24 : xAt kT167 24 (.getfield 103) 27 := ⟨3, rfl, Or.inr rfl, rfl⟩
set_option maxRecDepth 100000 in
theorem lk167_27 : xAt kT167 27 (.putfield 97) 30 := ⟨3, rfl, Or.inr rfl, rfl⟩
set_option maxRecDepth 100000 in
theorem lk167_30 : xAt kT167 30 (.aload_n 0) 31 := ⟨1, rfl, Or.inr rfl, rfl⟩
set_option maxRecDepth 100000 in
theorem lk167_31 : xAt kT167 31 (.getfield 85) 34 := ⟨3, rfl, Or.inr rfl, rfl⟩
set_option maxRecDepth 100000 in
theorem lk167_34 : xAt kT167 34 (.iconst 2) 35 := ⟨1, rfl, Or.inr rfl, rfl⟩
set_option maxRecDepth 100000 in
theorem lk167_35 : xAt kT167 35 (.if_icmp .ne 42) 38 := ⟨3, rfl, Or.inr rfl, rfl⟩
set_option maxRecDepth 100000 in
theorem lk167_38 : xAt kT167 38 (.aload_n 0) 39 := ⟨1, rfl, Or.inr rfl, rfl⟩
set_option maxRecDepth 100000 in
theorem lk167_39 : xAt kT167 39 (.dup) 40 := ⟨1, rfl, Or.inr rfl, rfl⟩
set_option maxRecDepth 100000 in
theorem lk167_40 : xAt kT167 40 (.getfield 109) 43 := ⟨3, rfl, Or.inr rfl, rfl⟩
set_option maxRecDepth 100000 in
theorem lk167_43 : xAt kT167 43 (.iconst 1) 44 := ⟨1, rfl, Or.inr rfl, rfl⟩
set_option maxRecDepth 100000 in
theorem lk167_44 : xAt kT167 44 (.aload_n 0) 45 := ⟨1, rfl, Or.inr rfl, rfl⟩
set_option maxRecDepth 100000 in
theorem lk167_45 : xAt kT167 45 (.getfield 60) 48 := ⟨3, rfl, Or.inr rfl, rfl⟩
set_option maxRecDepth 100000 in
theorem lk167_48 : xAt kT167 48 (.ishl) 49 := ⟨1, rfl, Or.inr rfl, rfl⟩
set_option maxRecDepth 100000 in
theorem lk167_49 : xAt kT167 49 (.ior) 50 := ⟨1, rfl, Or.inr rfl, rfl⟩
set_option maxRecDepth 100000 in
theorem lk167_50 : xAt kT167 50 (.putfield 109) 53 := ⟨3, rfl, Or.inr rfl, rfl⟩
set_option maxRecDepth 100000 in
theorem lk167_53 : xAt kT167 53 (.aload_n 0) 54 := ⟨1, rfl, Or.inr rfl, rfl⟩
set_option maxRecDepth 100000 in
theorem lk167_54 : xAt kT167 54 (.aload_n 0) 55 := ⟨1, rfl, Or.inr rfl, rfl⟩
set_option maxRecDepth 100000 in
theorem lk167_55 : xAt kT167 55 (.getfield 109) 58 := ⟨3, rfl, Or.inr rfl, rfl⟩
set_option maxRecDepth 100000 in
theorem lk167_58 : xAt kT167 58 (.invokevirtual 444) 61 := ⟨3, rfl, Or.inr rfl, rfl⟩
set_option maxRecDepth 100000 in
theorem lk167_61 : xAt kT167 61 (.ifCond .eq 54) 64 := ⟨3, rfl, Or.inr rfl, rfl⟩
set_option maxRecDepth 100000 in
theorem lk167_64 : xAt kT167 64 (.aload_n 0) 65 := ⟨1, rfl, Or.inr rfl, rfl⟩
set_option maxRecDepth 100000 in
theorem lk167_65 : xAt kT167 65 (.dup) 66 := ⟨1, rfl, Or.inr rfl, rfl⟩
set_option maxRecDepth 100000 in
theorem lk167_66 : xAt kT167 66 (.getfield 146) 69 := ⟨3, rfl, Or.inr rfl, rfl⟩
set_option maxRecDepth 100000 in
theorem lk167_69 : xAt kT167 69 (.iconst 2) 70 := ⟨1, rfl, Or.inr rfl, rfl⟩
set_option maxRecDepth 100000 in
theorem lk167_70 : xAt kT167 70 (.ior) 71 := ⟨1, rfl, Or.inr rfl, rfl⟩
set_option maxRecDepth 100000 in
theorem lk167_71 : xAt kT167 71 (.putfield 146) 74 := ⟨3, rfl, Or.inr rfl, rfl⟩
set_option maxRecDepth 100000 in
theorem lk167_74 : xAt kT167 74 (.goto 41) 77 := ⟨3, rfl, Or.inr rfl, rfl⟩
set_option maxRecDepth 100000 in
theorem lk167_77 : xAt kT167 77 (.aload_n 0) 78 := ⟨1, rfl, Or.inr rfl, rfl⟩
set_option maxRecDepth 100000 in
theorem lk167_78 : xAt kT167 78 (.getfield 85) 81 := ⟨3, rfl, Or.inr rfl, rfl⟩
set_option maxRecDepth 100000 in
theorem lk167_81 : xAt kT167 81 (.iconst 3) 82 := ⟨1, rfl, Or.inr rfl, rfl⟩
set_option maxRecDepth 100000 in
theorem lk167_82 : xAt kT167 82 (.if_icmp .ne 33) 85 := ⟨3, rfl, Or.inr rfl, rfl⟩
set_option maxRecDepth 100000 in
theorem lk167_85 : xAt kT167 85 (.aload_n 0) 86 := ⟨1, rfl, Or.inr rfl, rfl⟩
set_option maxRecDepth 100000 in
theorem lk167_86 : xAt kT167 86 (.getfield 21) 89 := ⟨3, rfl, Or.inr rfl, rfl⟩
set_option maxRecDepth 100000 in
theorem lk167_89 : xAt kT167 89 (.getfield 459) 92 := ⟨3, rfl, Or.inr rfl, rfl⟩
set_option maxRecDepth 100000 in
theorem lk167_92 : xAt kT167 92 (.aload_n 0) 93 := ⟨1, rfl, Or.inr rfl, rfl⟩
set_option maxRecDepth 100000 in
theorem lk167_93 : xAt kT167 93 (.getfield 60) 96 := ⟨3, rfl, Or.inr rfl, rfl⟩
set_option maxRecDepth 100000 in
theorem lk167_96 : xAt kT167 96 (.aload_n 0) 97 := ⟨1, rfl, Or.inr rfl, rfl⟩
set_option maxRecDepth 100000 in
theorem lk167_97 : xAt kT167 97 (.getfield 72) 100 := ⟨3, rfl, Or.inr rfl, rfl⟩
set_option maxRecDepth 100000 in
theorem lk167_100 : xAt kT167 100 (.getfield 97) 103 := ⟨3, rfl, Or.inr rfl, rfl⟩
set_option maxRecDepth 100000 in
theorem lk167_103 : xAt kT167 103 (.iastore) 104 := ⟨1, rfl, Or.inr rfl, rfl⟩
set_option maxRecDepth 100000 in
theorem lk167_104 : xAt kT167 104 (.aload_n 0) 105 := ⟨1, rfl, Or.inr rfl, rfl⟩
set_option maxRecDepth 100000 in
theorem lk167_105 : xAt kT167 105 (.dup) 106 := ⟨1, rfl, Or.inr rfl, rfl⟩
set_option maxRecDepth 100000 in
theorem lk167_106 : xAt kT167 106 (.getfield 146) 109 := ⟨3, rfl, Or.inr rfl, rfl⟩
set_option maxRecDepth 100000 in
theorem lk167_109 : xAt kT167 109 (.bipush 8) 111 := ⟨2, rfl, Or.inr rfl, rfl⟩
set_option maxRecDepth 100000 in
theorem lk167_111 : xAt kT167 111 (.ior) 112 := ⟨1, rfl, Or.inr rfl, rfl⟩
set_option maxRecDepth 100000 in
theorem lk167_112 : xAt kT167 112 (.putfield 146) 115 := ⟨3, rfl, Or.inr rfl, rfl⟩
set_option maxRecDepth 100000 in
theorem lk167_115 : xAt kT167 115 (.return_) 116 := ⟨1, rfl, Or.inr rfl, rfl⟩
set_option maxRecDepth 100000 in
theorem lk181_0 : xAt kT181 0 (.iload_n 1) 1 := ⟨1, rfl, Or.inr rfl, rfl⟩
set_option maxRecDepth 100000 in
theorem lk181_1 : xAt kT181 1 (.tableswitch 245 1 19 #[91, 96, 101, 106, 111, 119, 127, 135, 143, 151, 159, 164, 172, 185, 205, 213, 221, 229, 237]) 92 := ⟨91, rfl, Or.inl rfl, rfl⟩
set_option maxRecDepth 100000 in
theorem lk181_92 : xAt kT181 92 (.aload_n 0) 93 := ⟨1, rfl, Or.inr rfl, rfl⟩
set_option maxRecDepth 100000 in
theorem lk181_93 : xAt kT181 93 (.getfield 85) 96 := ⟨3, rfl, Or.inr rfl, rfl⟩
set_option maxRecDepth 100000 in
theorem lk181_96 : xAt kT181 96 (.ireturn) 97 := ⟨1, rfl, Or.inr rfl, rfl⟩
set_option maxRecDepth 100000 in
theorem lk181_97 : xAt kT181 97 (.aload_n 0) 98 := ⟨1, rfl, Or.inr rfl, rfl⟩
set_option maxRecDepth 100000 in
theorem lk181_98 : xAt kT181 98 (.getfield 88) 101 := ⟨3, rfl, Or.inr rfl, rfl⟩
set_option maxRecDepth 100000 in
theorem lk181_101 : xAt kT181 101 (.ireturn) 102 := ⟨1, rfl, Or.inr rfl, rfl⟩
set_option maxRecDepth 100000 in
theorem lk181_102 : xAt kT181 102 (.aload_n 0) 103 := ⟨1, rfl, Or.inr rfl, rfl⟩
set_option maxRecDepth 100000 in
theorem lk181_103 : xAt kT181 103 (.getfield 43) 106 := ⟨3, rfl, Or.inr rfl, rfl⟩
set_option maxRecDepth 100000 in
theorem lk181_106 : xAt kT181 106 (.ireturn) 107 := ⟨1, rfl, Or.inr rfl, rfl⟩
set_option maxRecDepth 100000 in
theorem lk181_107 : xAt kT181 107 (.aload_n 0) 108 := ⟨1, rfl, Or.inr rfl, rfl⟩
set_option maxRecDepth 100000 in
theorem lk181_108 : xAt kT181 108 (.getfield 47) 111 := ⟨3, rfl, Or.inr rfl, rfl⟩
set_option maxRecDepth 100000 in
theorem lk181_111 : xAt kT181 111 (.ireturn) 112 := ⟨1, rfl, Or.inr rfl, rfl⟩
set_option maxRecDepth 100000 in
theorem lk181_112 : xAt kT181 112 (.aload_n 0) 113 := ⟨1, rfl, Or.inr rfl, rfl⟩
set_option maxRecDepth 100000 in
theorem lk181_113 : xAt kT181 113 (.getfield 72) 116 := ⟨3, rfl, Or.inr rfl, rfl⟩
set_option maxRecDepth 100000 in
theorem lk181_116 : xAt kT181 116 (.getfield 91) 119 := ⟨3, rfl, Or.inr rfl, rfl⟩
set_option maxRecDepth 100000 in
theorem lk181_119 : xAt kT181 119 (.ireturn) 120 := ⟨1, rfl, Or.inr rfl, rfl⟩
set_option maxRecDepth 100000 in
theorem lk181_120 : xAt kT181 120 (.aload_n 0) 121 := ⟨1, rfl, Or.inr rfl, rfl⟩
set_option maxRecDepth 100000 in
theorem lk181_121 : xAt kT181 121 (.getfield 72) 124 := ⟨3, rfl, Or.inr rfl, rfl⟩
set_option maxRecDepth 100000 in
theorem lk181_124 : xAt kT181 124 (.getfield 94) 127 := ⟨3, rfl, Or.inr rfl, rfl⟩
set_option maxRecDepth 100000 in
theorem lk181_127 : xAt kT181 127 (.ireturn) 128 := ⟨1, rfl, Or.inr rfl, rfl⟩
set_option maxRecDepth 100000 in
theorem lk181_128 : xAt kT181 128 (.aload_n 0) 129 := ⟨1, rfl, Or.inr rfl, rfl⟩
set_option maxRecDepth 100000 in
theorem lk181_129 : xAt kT181 129 (.getfield 72) 132 := ⟨3, rfl, Or.inr rfl, rfl⟩
set_option maxRecDepth 100000 in
theorem lk181_132 : xAt kT181 132 (.getfield 97) 135 := ⟨3, rfl, Or.inr rfl, rfl⟩
set_option maxRecDepth 100000 in
theorem lk181_135 : xAt kT181 135 (.ireturn) 136 := ⟨1, rfl, Or.inr rfl, rfl⟩
set_option maxRecDepth 100000 in
theorem lk181_136 : xAt kT181 136 (.aload_n 0) 137 := ⟨1, rfl, Or.inr rfl, rfl⟩
set_option maxRecDepth 100000 in
theorem lk181_137 : xAt kT181 137 (.getfield 72) 140 := ⟨3, rfl, Or.inr rfl, rfl⟩
set_option maxRecDepth 100000 in
theorem lk181_140 : xAt kT181 140 (.getfield 100) 143 := ⟨3, rfl, Or.inr rfl, rfl⟩
set_option maxRecDepth 100000 in
theorem lk181_143 : xAt kT181 143 (.ireturn) 144 := ⟨1, rfl, Or.inr rfl, rfl⟩
set_option maxRecDepth 100000 in
theorem lk181_144 : xAt kT181 144 (.aload_n 0) 145 := ⟨1, rfl, Or.inr rfl, rfl⟩
set_option maxRecDepth 100000 in
theorem lk181_145 : xAt kT181 145 (.getfield 72) 148 := ⟨3, rfl, Or.inr rfl, rfl⟩
set_option maxRecDepth 100000 in
theorem lk181_148 : xAt kT181 148 (.getfield 103) 151 := ⟨3, rfl, Or.inr rfl, rfl⟩
set_option maxRecDepth 100000 in
theorem lk181_151 : xAt kT181 151 (.ireturn) 152 := ⟨1, rfl, Or.inr rfl, rfl⟩
set_option maxRecDepth 100000 in
theorem lk181_152 : xAt kT181 152 (.aload_n 0) 153 := ⟨1, rfl, Or.inr rfl, rfl⟩
set_option maxRecDepth 100000 in
theorem lk181_153 : xAt kT181 153 (.getfield 72) 156 := ⟨3, rfl, Or.inr rfl, rfl⟩
set_option maxRecDepth 100000 in
theorem lk181_156 : xAt kT181 156 (.getfield 106) 159 := ⟨3, rfl, Or.inr rfl, rfl⟩
set_option maxRecDepth 100000 in
theorem lk181_159 : xAt kT181 159 (.ireturn) 160 := ⟨1, rfl, Or.inr rfl, rfl⟩
set_option maxRecDepth 100000 in
theorem lk181_160 : xAt kT181 160 (.aload_n 0) 161 := ⟨1, rfl, Or.inr rfl, rfl⟩
set_option maxRecDepth 100000 in
theorem lk181_161 : xAt kT181 161 (.getfield 109) 164 := ⟨3, rfl, Or.inr rfl, rfl⟩
set_option maxRecDepth 100000 in
theorem lk181_164 : xAt kT181 164 (.ireturn) 165 := ⟨1, rfl, Or.inr rfl, rfl⟩
set_option maxRecDepth 100000 in
theorem lk181_165 : xAt kT181 165 (.aload_n 0) 166 := ⟨1, rfl, Or.inr rfl, rfl⟩
set_option maxRecDepth 100000 in
theorem lk181_166 : xAt kT181 166 (.getfield 21) 169 := ⟨3, rfl, Or.inr rfl, rfl⟩
set_option maxRecDepth 100000 in
theorem lk181_169 : xAt kT181 169 (.getfield 112) 172 := ⟨3, rfl, Or.inr rfl, rfl⟩
set_option maxRecDepth 100000 in
theorem lk181_172 : xAt kT181 172 (.ireturn) 173 := ⟨1, rfl, Or.inr rfl, rfl⟩
set_option maxRecDepth 100000 in
theorem lk181_173 : xAt kT181 173 (.aload_n 0) 174 := ⟨1, rfl, Or.inr rfl, rfl⟩
set_option maxRecDepth 100000 in
theorem lk181_174 : xAt kT181 174 (.getfield 115) 177 := ⟨3, rfl, Or.inr rfl, rfl⟩
set_option maxRecDepth 100000 in
theorem lk181_177 : xAt kT181 177 (.ifCond .eq 7) 180 := ⟨3, rfl, Or.inr rfl, rfl⟩
set_option maxRecDepth 100000 in
theorem lk181_180 : xAt kT181 180 (.iconst 1) 181 := ⟨1, rfl, Or.inr rfl, rfl⟩
set_option maxRecDepth 100000 in
theorem lk181_181 : xAt kT181 181 (.goto 4) 184 := ⟨3, rfl, Or.inr rfl, rfl⟩
set_option maxRecDepth 100000 in
theorem lk181_184 : xAt kT181 184 (.iconst 0) 185 := ⟨1, rfl, Or.inr rfl, rfl⟩
set_option maxRecDepth 100000 in
theorem lk181_185 : xAt kT181 185 (.ireturn) 186 := ⟨1, rfl, Or.inr rfl, rfl⟩
set_option maxRecDepth 100000 in
theorem lk181_186 : xAt kT181 186 (.aload_n 0) 187 := ⟨1, rfl, Or.inr rfl, rfl⟩
set_option maxRecDepth 100000 in
theorem lk181_187 : xAt kT181 187 (.getfield 85) 190 := ⟨3, rfl, Or.inr rfl, rfl⟩
set_option maxRecDepth 100000 in
theorem lk181_190 : xAt kT181 190 (.iconst 3) 191 := ⟨1, rfl, Or.inr rfl, rfl⟩
set_option maxRecDepth 100000 in
theorem lk181_191 : xAt kT181 191 (.if_icmp .ne 13) 194 := ⟨3, rfl, Or.inr rfl, rfl⟩
set_option maxRecDepth 100000 in
theorem lk181_194 : xAt kT181 194 (.aload_n 0) 195 := ⟨1, rfl, Or.inr rfl, rfl⟩
set_option maxRecDepth 100000 in
theorem lk181_195 : xAt kT181 195 (.getfield 21) 198 := ⟨3, rfl, Or.inr rfl, rfl⟩
set_option maxRecDepth 100000 in
theorem lk181_198 : xAt kT181 198 (.getfield 118) 201 := ⟨3, rfl, Or.inr rfl, rfl⟩
set_option maxRecDepth 100000 in
theorem lk181_201 : xAt kT181 201 (.goto 4) 204 := ⟨3, rfl, Or.inr rfl, rfl⟩
set_option maxRecDepth 100000 in
theorem lk181_204 : xAt kT181 204 (.iconst 0) 205 := ⟨1, rfl, Or.inr rfl, rfl⟩
set_option maxRecDepth 100000 in
theorem lk181_205 : xAt kT181 205 (.ireturn) 206 := ⟨1, rfl, Or.inr rfl, rfl⟩
set_option maxRecDepth 100000 in
theorem lk181_206 : xAt kT181 206 (.aload_n 0) 207 := ⟨1, rfl, Or.inr rfl, rfl⟩
set_option maxRecDepth 100000 in
theorem lk181_207 : xAt kT181 207 (.getfield 35) 210 := ⟨3, rfl, Or.inr rfl, rfl⟩
set_option maxRecDepth 100000 in
theorem lk181_210 : xAt kT181 210 (.invokevirtual 121) 213 := ⟨3, rfl, Or.inr rfl, rfl⟩
set_option maxRecDepth 100000 in
theorem lk181_213 : xAt kT181 213 (.ireturn) 214 := ⟨1, rfl, Or.inr rfl, rfl⟩
set_option maxRecDepth 100000 in
theorem lk181_214 : xAt kT181 214 (.aload_n 0) 215 := ⟨1, rfl, Or.inr rfl, rfl⟩
set_option maxRecDepth 100000 in
theorem lk181_215 : xAt kT181 215 (.getfield 28) 218 := ⟨3, rfl, Or.inr rfl, rfl⟩
set_option maxRecDepth 100000 in
theorem lk181_218 : xAt kT181 218 (.getfield 125) 221 := ⟨3, rfl, Or.inr rfl, rfl⟩
set_option maxRecDepth 100000 in
theorem lk181_221 : xAt kT181 221 (.ireturn) 222 := ⟨1, rfl, Or.inr rfl, rfl⟩
set_option maxRecDepth 100000 in
theorem lk181_222 : xAt kT181 222 (.aload_n 0) 223 := ⟨1, rfl, Or.inr rfl, rfl⟩
set_option maxRecDepth 100000 in
theorem lk181_223 : xAt kT181 223 (.getfield 81) 226 := ⟨3, rfl, Or.inr rfl, rfl⟩
set_option maxRecDepth 100000 in
theorem lk181_226 : xAt kT181 226 (.getfield 128) 229 := ⟨3, rfl, Or.inr rfl, rfl⟩
set_option maxRecDepth 100000 in
theorem lk181_229 : xAt kT181 229 (.ireturn) 230 := ⟨1, rfl, Or.inr rfl, rfl⟩
set_option maxRecDepth 100000 in
theorem lk181_230 : xAt kT181 230 (.aload_n 0) 231 := ⟨1, rfl, Or.inr rfl, rfl⟩
set_option maxRecDepth 100000 in
theorem lk181_231 : xAt kT181 231 (.getfield 81) 234 := ⟨3, rfl, Or.inr rfl, rfl⟩
set_option maxRecDepth 100000 in
theorem lk181_234 : xAt kT181 234 (.getfield 131) 237 := ⟨3, rfl, Or.inr rfl, rfl⟩
set_option maxRecDepth 100000 in
theorem lk181_237 : xAt kT181 237 (.ireturn) 238 := ⟨1, rfl, Or.inr rfl, rfl⟩
set_option maxRecDepth 100000 in
theorem lk181_238 : xAt kT181 238 (.aload_n 0) 239 := ⟨1, rfl, Or.inr rfl, rfl⟩
set_option maxRecDepth 100000 in
theorem lk181_239 : xAt kT181 239 (.getfield 81) 242 := ⟨3, rfl, Or.inr rfl, rfl⟩
set_option maxRecDepth 100000 in
theorem lk181_242 : xAt kT181 242 (.getfield 134) 245 := ⟨3, rfl, Or.inr rfl, rfl⟩
set_option maxRecDepth 100000 in
theorem lk181_245 : xAt kT181 245 (.ireturn) 246 := ⟨1, rfl, Or.inr rfl, rfl⟩
set_option maxRecDepth 100000 in
theorem lk181_246 : xAt kT181 246 (.aload_n 0) 247 := ⟨1, rfl, Or.inr rfl, rfl⟩
set_option maxRecDepth 100000 in
theorem lk181_247 : xAt kT181 247 (.getfield 12) 250 := ⟨3, rfl, Or.inr rfl, rfl⟩
set_option maxRecDepth 100000 in
theorem lk181_250 : xAt kT181 250 (.invokevirtual 137) 253 := ⟨3, rfl, Or.inr rfl, rfl⟩
set_option maxRecDepth 100000 in
theorem lk181_253 : xAt kT181 253 (.ireturn) 254 := ⟨1, rfl, Or.inr rfl, rfl⟩
set_option maxRecDepth 100000 in
theorem lk183_0 : xAt kT183 0 (.aload_n 0) 1 := ⟨1, rfl, Or.inr rfl, rfl⟩
set_option maxRecDepth 100000 in
theorem lk183_1 : xAt kT183 1 (.getfield 85) 4 := ⟨3, rfl, Or.inr rfl, rfl⟩
set_option maxRecDepth 100000 in
theorem lk183_4 : xAt kT183 4 (.iconst 3) 5 := ⟨1, rfl, Or.inr rfl, rfl⟩
set_option maxRecDepth 100000 in
theorem lk183_5 : xAt kT183 5 (.if_icmp .ne 75) 8 := ⟨3, rfl, Or.inr rfl, rfl⟩
set_option maxRecDepth 100000 in
theorem lk183_8 : xAt kT183 8 (.aload_n 0) 9 := ⟨1, rfl, Or.inr rfl, rfl⟩
set_option maxRecDepth 100000 in
theorem lk183_9 : xAt kT183 9 (.getfield 21) 12 := ⟨3, rfl, Or.inr rfl, rfl⟩
set_option maxRecDepth 100000 in
theorem lk183_12 : xAt kT183 12 (.getfield 431) 15 := ⟨3, rfl, Or.inr rfl, rfl⟩
set_option maxRecDepth 100000 in
theorem lk183_15 : xAt kT183 15 (.aload_n 0) 16 := ⟨1, rfl, Or.inr rfl, rfl⟩
set_option maxRecDepth 100000 in
theorem lk183_16 : xAt kT183 16 (.getfield 60) 19 := ⟨3, rfl, Or.inr rfl, rfl⟩
set_option maxRecDepth 100000 in
theorem lk183_19 : xAt kT183 19 (.aload_n 0) 20 := ⟨1, rfl, Or.inr rfl, rfl⟩
set_option maxRecDepth 100000 in
theorem lk183_20 : xAt kT183 20 (.getfield 63) 23 := ⟨3, rfl, Or.inr rfl, rfl⟩
set_option maxRecDepth 100000 in
theorem lk183_23 : xAt kT183 23 (.getfield 241) 26 := ⟨3, rfl, Or.inr rfl, rfl⟩
set_option maxRecDepth 100000 in
theorem lk183_26 : xAt kT183 26 (.iastore) 27 := ⟨1, rfl, Or.inr rfl, rfl⟩
set_option maxRecDepth 100000 in
theorem lk183_27 : xAt kT183 27 (.aload_n 0) 28 := ⟨1, rfl, Or.inr rfl, rfl⟩
set_option maxRecDepth 100000 in
theorem lk183_28 : xAt kT183 28 (.getfield 21) 31 := ⟨3, rfl, Or.inr rfl, rfl⟩
set_option maxRecDepth 100000 in
theorem lk183_31 : xAt kT183 31 (.getfield 431) 34 := ⟨3, rfl, Or.inr rfl, rfl⟩
set_option maxRecDepth 100000 in
theorem lk183_34 : xAt kT183 34 (.aload_n 0) 35 := ⟨1, rfl, Or.inr rfl, rfl⟩
set_option maxRecDepth 100000 in
theorem lk183_35 : xAt kT183 35 (.getfield 72) 38 := ⟨3, rfl, Or.inr rfl, rfl⟩
set_option maxRecDepth 100000 in
theorem lk183_38 : xAt kT183 38 (.getfield 106) 41 := ⟨3, rfl, Or.inr rfl, rfl⟩
set_option maxRecDepth 100000 in
theorem lk183_41 : xAt kT183 41 (.invokestatic 434) 44 := ⟨3, rfl, Or.inr rfl, rfl⟩
set_option maxRecDepth 100000 in
theorem lk183_44 : xAt kT183 44 (.aload_n 0) 45 := ⟨1, rfl, Or.inr rfl, rfl⟩
set_option maxRecDepth 100000 in
theorem lk183_45 : xAt kT183 45 (.getfield 63) 48 := ⟨3, rfl, Or.inr rfl, rfl⟩
set_option maxRecDepth 100000 in
theorem lk183_48 : xAt kT183 48 (.getfield 241) 51 := ⟨3, rfl, Or.inr rfl, rfl⟩
set_option maxRecDepth 100000 in
theorem lk183_51 : xAt kT183 51 (.bipush 100) 53 := ⟨2, rfl, Or.inr rfl, rfl⟩
set_option maxRecDepth 100000 in
theorem lk183_53 : xAt kT183 53 (.isub) 54 := ⟨1, rfl, Or.inr rfl, rfl⟩
set_option maxRecDepth 100000 in
theorem lk183_54 : xAt kT183 54 (.if_icmp .ge 15) 57 := ⟨3, rfl, Or.inr rfl, rfl⟩
set_option maxRecDepth 100000 in
theorem lk183_57 : xAt kT183 57 (.aload_n 0) 58 := ⟨1, rfl, Or.inr rfl, rfl⟩
set_option maxRecDepth 100000 in
theorem lk183_58 : xAt kT183 58 (.aload_n 0) 59 := ⟨1, rfl, Or.inr rfl, rfl⟩
set_option maxRecDepth 100000 in
theorem lk183_59 : xAt kT183 59 (.getfield 88) 62 := ⟨3, rfl, Or.inr rfl, rfl⟩
set_option maxRecDepth 100000 in
theorem lk183_62 : xAt kT183 62 (.iconst (-1)) 63 := ⟨1, rfl, Or.inr rfl, rfl⟩
set_option maxRecDepth 100000 in
theorem lk183_63 : xAt kT183 63 (.invokevirtual 438) 66 := ⟨3, rfl, Or.inr rfl, rfl⟩
set_option maxRecDepth 100000 in
theorem lk183_66 : xAt kT183 66 (.goto 13) 69 := ⟨3, rfl, Or.inr rfl, rfl⟩
set_option maxRecDepth 100000 in
theorem lk183_69 : xAt kT183 69 (.aload_n 0) 70 := ⟨1, rfl, Or.inr rfl, rfl⟩
set_option maxRecDepth 100000 in
theorem lk183_70 : xAt kT183 70 (.dup) 71 := ⟨1, rfl, Or.inr rfl, rfl⟩
set_option maxRecDepth 100000 in
theorem lk183_71 : xAt kT183 71 (.getfield 146) 74 := ⟨3, rfl, Or.inr rfl, rfl⟩
set_option maxRecDepth 100000 in
theorem lk183_74 : xAt kT183 74 (.iconst 4) 75 := ⟨1, rfl, Or.inr rfl, rfl⟩
set_option maxRecDepth 100000 in
theorem lk183_75 : xAt kT183 75 (.ior) 76 := ⟨1, rfl, Or.inr rfl, rfl⟩
set_option maxRecDepth 100000 in
theorem lk183_76 : xAt kT183 76 (.putfield 146) 79 := ⟨3, rfl, Or.inr rfl, rfl⟩
set_option maxRecDepth 100000 in
theorem lk183_79 : xAt kT183 79 (.return_) 80 := ⟨1, rfl, Or.inr rfl, rfl⟩
set_option maxRecDepth 100000 in
theorem lk183_80 : xAt kT183 80 (.aload_n 0) 81 := ⟨1, rfl, Or.inr rfl, rfl⟩
set_option maxRecDepth 100000 in
theorem lk183_81 : xAt kT183 81 (.getfield 63) 84 := ⟨3, rfl, Or.inr rfl, rfl⟩
set_option maxRecDepth 100000 in
theorem lk183_84 : xAt kT183 84 (.aload_n 0) 85 := ⟨1, rfl, Or.inr rfl, rfl⟩
set_option maxRecDepth 100000 in
theorem lk183_85 : xAt kT183 85 (.getfield 60) 88 := ⟨3, rfl, Or.inr rfl, rfl⟩
set_option maxRecDepth 100000 in
theorem lk183_88 : xAt kT183 88 (.invokevirtual 251) 91 := ⟨3, rfl, Or.inr rfl, rfl⟩
set_option maxRecDepth 100000 in
theorem lk183_91 : xAt kT183 91 (.aload_n 0) 92 := ⟨1, rfl, Or.inr rfl, rfl⟩
set_option maxRecDepth 100000 in
theorem lk183_92 : xAt kT183 92 (.invokevirtual 367) 95 := ⟨3, rfl, Or.inr rfl, rfl⟩
set_option maxRecDepth 100000 in
theorem lk183_95 : xAt kT183 95 (.aload_n 0) 96 := ⟨1, rfl, Or.inr rfl, rfl⟩
set_option maxRecDepth 100000 in
theorem lk183_96 : xAt kT183 96 (.getfield 60) 99 := ⟨3, rfl, Or.inr rfl, rfl⟩
set_option maxRecDepth 100000 in
theorem lk183_99 : xAt kT183 99 (.ishr) 100 := ⟨1, rfl, Or.inr rfl, rfl⟩
set_option maxRecDepth 100000 in
theorem lk183_100 : xAt kT183 100 (.iconst 1) 101 := ⟨1, rfl, Or.inr rfl, rfl⟩
set_option maxRecDepth 100000 in
theorem lk183_101 : xAt kT183 101 (.iand) 102 := ⟨1, rfl, Or.inr rfl, rfl⟩
set_option maxRecDepth 100000 in
theorem lk183_102 : xAt kT183 102 (.ifCond .eq 55) 105 := ⟨3, rfl, Or.inr rfl, rfl⟩
set_option maxRecDepth 100000 in
theorem lk183_105 : xAt kT183 105 (.aload_n 0) 106 := ⟨1, rfl, Or.inr rfl, rfl⟩
set_option maxRecDepth 100000 in
theorem lk183_106 : xAt kT183 106 (.iconst 1) 107 := ⟨1, rfl, Or.inr rfl, rfl⟩
set_option maxRecDepth 100000 in
theorem lk183_107 : xAt kT183 107 (.putfield 85) 110 := ⟨3, rfl, Or.inr rfl, rfl⟩
set_option maxRecDepth 100000 in
theorem lk183_110 : xAt kT183 110 (.aload_n 0) 111 := ⟨1, rfl, Or.inr rfl, rfl⟩
set_option maxRecDepth 100000 in
theorem lk183_111 : xAt kT183 111 (.iconst (-1)) 112 := ⟨1, rfl, Or.inr rfl, rfl⟩
set_option maxRecDepth 100000 in
theorem lk183_112 : xAt kT183 112 (.putfield 47) 115 := ⟨3, rfl, Or.inr rfl, rfl⟩
set_option maxRecDepth 100000 in
theorem lk183_115 : xAt kT183 115 (.aload_n 0) 116 := ⟨1, rfl, Or.inr rfl, rfl⟩
set_option maxRecDepth 100000 in
theorem lk183_116 : xAt kT183 116 (.iconst 1) 117 := ⟨1, rfl, Or.inr rfl, rfl⟩
set_option maxRecDepth 100000 in
theorem lk183_117 : xAt kT183 117 (.aload_n 0) 118 := ⟨1, rfl, Or.inr rfl, rfl⟩
set_option maxRecDepth 100000 in
theorem lk183_118 : xAt kT183 118 (.getfield 60) 121 := ⟨3, rfl, Or.inr rfl, rfl⟩
set_option maxRecDepth 100000 in
theorem lk183_121 : xAt kT183 121 (.ishl) 122 := ⟨1, rfl, Or.inr rfl, rfl⟩
set_option maxRecDepth 100000 in
theorem lk183_122 : xAt kT183 122 (.putfield 109) 125 := ⟨3, rfl, Or.inr rfl, rfl⟩
set_option maxRecDepth 100000 in
theorem lk183_125 : xAt kT183 125 (.aload_n 0) 126 := ⟨1, rfl, Or.inr rfl, rfl⟩
set_option maxRecDepth 100000 in
theorem lk183_126 : xAt kT183 126 (.iconst 1) 127 := ⟨1, rfl, Or.inr rfl, rfl⟩
set_option maxRecDepth 100000 in
theorem lk183_127 : xAt kT183 127 (.aload_n 0) 128 := ⟨1, rfl, Or.inr rfl, rfl⟩
set_option maxRecDepth 100000 in
theorem lk183_128 : xAt kT183 128 (.getfield 88) 131 := ⟨3, rfl, Or.inr rfl, rfl⟩
set_option maxRecDepth 100000 in
theorem lk183_131 : xAt kT183 131 (.iconst 1) 132 := ⟨1, rfl, Or.inr rfl, rfl⟩
set_option maxRecDepth 100000 in
theorem lk183_132 : xAt kT183 132 (.iadd) 133 := ⟨1, rfl, Or.inr rfl, rfl⟩
set_option maxRecDepth 100000 in
theorem lk183_133 : xAt kT183 133 (.invokevirtual 441) 136 := ⟨3, rfl, Or.inr rfl, rfl⟩
set_option maxRecDepth 100000 in
theorem lk183_136 : xAt kT183 136 (.aload_n 0) 137 := ⟨1, rfl, Or.inr rfl, rfl⟩
set_option maxRecDepth 100000 in
theorem lk183_137 : xAt kT183 137 (.aload_n 0) 138 := ⟨1, rfl, Or.inr rfl, rfl⟩
set_option maxRecDepth 100000 in
theorem lk183_138 : xAt kT183 138 (.getfield 109) 141 := ⟨3, rfl, Or.inr rfl, rfl⟩
set_option maxRecDepth 100000 in
theorem lk183_141 : xAt kT183 141 (.invokevirtual 444) 144 := ⟨3, rfl, Or.inr rfl, rfl⟩
set_option maxRecDepth 100000 in
theorem lk183_144 : xAt kT183 144 (.ifCond .eq 13) 147 := ⟨3, rfl, Or.inr rfl, rfl⟩
set_option maxRecDepth 100000 in
theorem lk183_147 : xAt kT183 147 (.aload_n 0) 148 := ⟨1, rfl, Or.inr rfl, rfl⟩
set_option maxRecDepth 100000 in
theorem lk183_148 : xAt kT183 148 (.dup) 149 := ⟨1, rfl, Or.inr rfl, rfl⟩
set_option maxRecDepth 100000 in
theorem lk183_149 : xAt kT183 149 (.getfield 146) 152 := ⟨3, rfl, Or.inr rfl, rfl⟩
set_option maxRecDepth 100000 in
theorem lk183_152 : xAt kT183 152 (.iconst 1) 153 := ⟨1, rfl, Or.inr rfl, rfl⟩
set_option maxRecDepth 100000 in
theorem lk183_153 : xAt kT183 153 (.ior) 154 := ⟨1, rfl, Or.inr rfl, rfl⟩
set_option maxRecDepth 100000 in
theorem lk183_154 : xAt kT183 154 (.putfield 146) 157 := ⟨3, rfl, Or.inr rfl, rfl⟩
set_option maxRecDepth 100000 in
theorem lk183_157 : xAt kT183 157 (.return_) 158 := ⟨1, rfl, Or.inr rfl, rfl⟩
set_option maxRecDepth 100000 in
theorem lk193_0 : xAt kT193 0 (.iload_n 1) 1 := ⟨1, rfl, Or.inr rfl, rfl⟩
set_option maxRecDepth 100000 in
theorem lk193_1 : xAt kT193 1 (.ifCond .lt 18) 4 := ⟨3, rfl, Or.inr rfl, rfl⟩
set_option maxRecDepth 100000 in
theorem lk193_4 : xAt kT193 4 (.iload_n 1) 5 := ⟨1, rfl, Or.inr rfl, rfl⟩
set_option maxRecDepth 100000 in
theorem lk193_5 : xAt kT193 5 (.aload_n 0) 6 := ⟨1, rfl, Or.inr rfl, rfl⟩
set_option maxRecDepth 100000 in
theorem lk193_6 : xAt kT193 6 (.getfield 31) 9 := ⟨3, rfl, Or.inr rfl, rfl⟩
set_option maxRecDepth 100000 in
theorem lk193_9 : xAt kT193 9 (.invokevirtual 55) 12 := ⟨3, rfl, Or.inr rfl, rfl⟩
set_option maxRecDepth 100000 in
theorem lk193_12 : xAt kT193 12 (.if_icmp .ge 7) 15 := ⟨3, rfl, Or.inr rfl, rfl⟩
set_option maxRecDepth 100000 in
theorem lk193_15 : xAt kT193 15 (.iconst 1) 16 := ⟨1, rfl, Or.inr rfl, rfl⟩
set_option maxRecDepth 100000 in
theorem lk193_16 : xAt kT193 16 (.goto 4) 19 := ⟨3, rfl, Or.inr rfl, rfl⟩
set_option maxRecDepth 100000 in
theorem lk193_19 : xAt kT193 19 (.iconst 0) 20 := ⟨1, rfl, Or.inr rfl, rfl⟩
set_option maxRecDepth 100000 in
theorem lk193_20 : xAt kT193 20 (.ireturn) 21 := ⟨1, rfl, Or.inr rfl, rfl⟩
set_option maxRecDepth 100000 in
theorem lk186_0 : xAt kT186 0 (.aload_n 0) 1 := ⟨1, rfl, Or.inr rfl, rfl⟩
set_option maxRecDepth 100000 in
theorem lk186_1 : xAt kT186 1 (.iload_n 1) 2 := ⟨1, rfl, Or.inr rfl, rfl⟩
set_option maxRecDepth 100000 in
theorem lk186_2 : xAt kT186 2 (.invokevirtual 133) 5 := ⟨3, rfl, Or.inr rfl, rfl⟩
set_option maxRecDepth 100000 in
theorem lk186_5 : xAt kT186 5 (.ifCond .eq 36) 8 := ⟨3, rfl, Or.inr rfl, rfl⟩
set_option maxRecDepth 100000 in
theorem lk186_8 : xAt kT186 8 (.aload_n 0) 9 := ⟨1, rfl, Or.inr rfl, rfl⟩
set_option maxRecDepth 100000 in
theorem lk186_9 : xAt kT186 9 (.getfield 31) 12 := ⟨3, rfl, Or.inr rfl, rfl⟩
set_option maxRecDepth 100000 in
theorem lk186_12 : xAt kT186 12 (.iload_n 1) 13 := ⟨1, rfl, Or.inr rfl, rfl⟩
set_option maxRecDepth 100000 in
theorem lk186_13 : xAt kT186 13 (.invokevirtual 59) 16 := ⟨3, rfl, Or.inr rfl, rfl⟩
set_option maxRecDepth 100000 in
theorem lk186_16 : xAt kT186 16 (.checkcast 52) 19 := ⟨3, rfl, Or.inr rfl, rfl⟩
set_option maxRecDepth 100000 in
theorem lk186_19 : xAt kT186 19 (.astore_n 3) 20 := ⟨1, rfl, Or.inr rfl, rfl⟩
set_option maxRecDepth 100000 in
theorem lk186_20 : xAt kT186 20 (.aload_n 0) 21 := ⟨1, rfl, Or.inr rfl, rfl⟩
set_option maxRecDepth 100000 in
theorem lk186_21 : xAt kT186 21 (.dup) 22 := ⟨1, rfl, Or.inr rfl, rfl⟩
set_option maxRecDepth 100000 in
theorem lk186_22 : xAt kT186 22 (.getfield 124) 25 := ⟨3, rfl, Or.inr rfl, rfl⟩
set_option maxRecDepth 100000 in
theorem lk186_25 : xAt kT186 25 (.iconst 1) 26 := ⟨1, rfl, Or.inr rfl, rfl⟩
set_option maxRecDepth 100000 in
theorem lk186_26 : xAt kT186 26 (.isub) 27 := ⟨1, rfl, Or.inr rfl, rfl⟩
set_option maxRecDepth 100000 in
theorem lk186_27 : xAt kT186 27 (.putfield 124) 30 := ⟨3, rfl, Or.inr rfl, rfl⟩
set_option maxRecDepth 100000 in
theorem lk186_30 : xAt kT186 30 (.aload_n 0) 31 := ⟨1, rfl, Or.inr rfl, rfl⟩
set_option maxRecDepth 100000 in
theorem lk186_31 : xAt kT186 31 (.aload_n 3) 32 := ⟨1, rfl, Or.inr rfl, rfl⟩
set_option maxRecDepth 100000 in
theorem lk186_32 : xAt kT186 32 (.aload_n 3) 33 := ⟨1, rfl, Or.inr rfl, rfl⟩
set_option maxRecDepth 100000 in
theorem lk186_33 : xAt kT186 33 (.getfield 115) 36 := ⟨3, rfl, Or.inr rfl, rfl⟩
set_option maxRecDepth 100000 in
theorem lk186_36 : xAt kT186 36 (.iload_n 2) 37 := ⟨1, rfl, Or.inr rfl, rfl⟩
set_option maxRecDepth 100000 in
theorem lk186_37 : xAt kT186 37 (.iadd) 38 := ⟨1, rfl, Or.inr rfl, rfl⟩
set_option maxRecDepth 100000 in
theorem lk186_38 : xAt kT186 38 (.invokevirtual 89) 41 := ⟨3, rfl, Or.inr rfl, rfl⟩
set_option maxRecDepth 100000 in
theorem lk186_41 : xAt kT186 41 (.return_) 42 := ⟨1, rfl, Or.inr rfl, rfl⟩
set_option maxRecDepth 100000 in
theorem lk187_0 : xAt kT187 0 (.aload_n 0) 1 := ⟨1, rfl, Or.inr rfl, rfl⟩
set_option maxRecDepth 100000 in
theorem lk187_1 : xAt kT187 1 (.iload_n 1) 2 := ⟨1, rfl, Or.inr rfl, rfl⟩
set_option maxRecDepth 100000 in
theorem lk187_2 : xAt kT187 2 (.invokevirtual 133) 5 := ⟨3, rfl, Or.inr rfl, rfl⟩
set_option maxRecDepth 100000 in
theorem lk187_5 : xAt kT187 5 (.ifCond .eq 52) 8 := ⟨3, rfl, Or.inr rfl, rfl⟩
set_option maxRecDepth 100000 in
theorem lk187_8 : xAt kT187 8 (.aload_n 0) 9 := ⟨1, rfl, Or.inr rfl, rfl⟩
set_option maxRecDepth 100000 in
theorem lk187_9 : xAt kT187 9 (.getfield 31) 12 := ⟨3, rfl, Or.inr rfl, rfl⟩
set_option maxRecDepth 100000 in
theorem lk187_12 : xAt kT187 12 (.iload_n 1) 13 := ⟨1, rfl, Or.inr rfl, rfl⟩
set_option maxRecDepth 100000 in
theorem lk187_13 : xAt kT187 13 (.invokevirtual 127) 16 := ⟨3, rfl, Or.inr rfl, rfl⟩
set_option maxRecDepth 100000 in
theorem lk187_16 : xAt kT187 16 (.checkcast 52) 19 := ⟨3, rfl, Or.inr rfl, rfl⟩
set_option maxRecDepth 100000 in
theorem lk187_19 : xAt kT187 19 (.astore_n 2) 20 := ⟨1, rfl, Or.inr rfl, rfl⟩
set_option maxRecDepth 100000 in
theorem lk187_20 : xAt kT187 20 (.aload_n 0) 21 := ⟨1, rfl, Or.inr rfl, rfl⟩
set_option maxRecDepth 100000 in
theorem lk187_21 : xAt kT187 21 (.invokevirtual 137) 24 := ⟨3, rfl, Or.inr rfl, rfl⟩
set_option maxRecDepth 100000 in
theorem lk187_24 : xAt kT187 24 (.astore_n 3) 25 := ⟨1, rfl, Or.inr rfl, rfl⟩
set_option maxRecDepth 100000 in
theorem lk187_25 : xAt kT187 25 (.aload_n 3) 26 := ⟨1, rfl, Or.inr rfl, rfl⟩
set_option maxRecDepth 100000 in
theorem lk187_26 : xAt kT187 26 (.aload_n 2) 27 := ⟨1, rfl, Or.inr rfl, rfl⟩
set_option maxRecDepth 100000 in
theorem lk187_27 : xAt kT187 27 (.invokevirtual 97) 30 := ⟨3, rfl, Or.inr rfl, rfl⟩
set_option maxRecDepth 100000 in
theorem lk187_30 : xAt kT187 30 (.aload_n 0) 31 := ⟨1, rfl, Or.inr rfl, rfl⟩
set_option maxRecDepth 100000 in
theorem lk187_31 : xAt kT187 31 (.aload_n 3) 32 := ⟨1, rfl, Or.inr rfl, rfl⟩
set_option maxRecDepth 100000 in
theorem lk187_32 : xAt kT187 32 (.aload_n 0) 33 := ⟨1, rfl, Or.inr rfl, rfl⟩
set_option maxRecDepth 100000 in
theorem lk187_33 : xAt kT187 33 (.getfield 77) 36 := ⟨3, rfl, Or.inr rfl, rfl⟩
set_option maxRecDepth 100000 in
theorem lk187_36 : xAt kT187 36 (.aload_n 0) 37 := ⟨1, rfl, Or.inr rfl, rfl⟩
set_option maxRecDepth 100000 in
theorem lk187_37 : xAt kT187 37 (.getfield 18) 40 := ⟨3, rfl, Or.inr rfl, rfl⟩
set_option maxRecDepth 100000 in
theorem lk187_40 : xAt kT187 40 (.aload_n 2) 41 := ⟨1, rfl, Or.inr rfl, rfl⟩
set_option maxRecDepth 100000 in
theorem lk187_41 : xAt kT187 41 (.getfield 63) 44 := ⟨3, rfl, Or.inr rfl, rfl⟩
set_option maxRecDepth 100000 in
theorem lk187_44 : xAt kT187 44 (.bipush 16) 46 := ⟨2, rfl, Or.inr rfl, rfl⟩
set_option maxRecDepth 100000 in
theorem lk187_46 : xAt kT187 46 (.imul) 47 := ⟨1, rfl, Or.inr rfl, rfl⟩
set_option maxRecDepth 100000 in
theorem lk187_47 : xAt kT187 47 (.aload_n 2) 48 := ⟨1, rfl, Or.inr rfl, rfl⟩
set_option maxRecDepth 100000 in
theorem lk187_48 : xAt kT187 48 (.getfield 66) 51 := ⟨3, rfl, Or.inr rfl, rfl⟩
set_option maxRecDepth 100000 in
theorem lk187_51 : xAt kT187 51 (.iadd) 52 := ⟨1, rfl, Or.inr rfl, rfl⟩
set_option maxRecDepth 100000 in
theorem lk187_52 : xAt kT187 52 (.iaload) 53 := ⟨1, rfl, Or.inr rfl, rfl⟩
set_option maxRecDepth 100000 in
theorem lk187_53 : xAt kT187 53 (.iadd) 54 := ⟨1, rfl, Or.inr rfl, rfl⟩
set_option maxRecDepth 100000 in
theorem lk187_54 : xAt kT187 54 (.invokevirtual 89) 57 := ⟨3, rfl, Or.inr rfl, rfl⟩
set_option maxRecDepth 100000 in
theorem lk187_57 : xAt kT187 57 (.return_) 58 := ⟨1, rfl, Or.inr rfl, rfl⟩
set_option maxRecDepth 100000 in
theorem lk190_0 : xAt kT190 0 (.aload_n 0) 1 := ⟨1, rfl, Or.inr rfl, rfl⟩
set_option maxRecDepth 100000 in
theorem lk190_1 : xAt kT190 1 (.iload_n 1) 2 := ⟨1, rfl, Or.inr rfl, rfl⟩
set_option maxRecDepth 100000 in
theorem lk190_2 : xAt kT190 2 (.invokevirtual 133) 5 := ⟨3, rfl, Or.inr rfl, rfl⟩
set_option maxRecDepth 100000 in
theorem lk190_5 : xAt kT190 5 (.ifCond .eq 18) 8 := ⟨3, rfl, Or.inr rfl, rfl⟩
set_option maxRecDepth 100000 in
theorem lk190_8 : xAt kT190 8 (.aload_n 0) 9 := ⟨1, rfl, Or.inr rfl, rfl⟩
set_option maxRecDepth 100000 in
theorem lk190_9 : xAt kT190 9 (.aload_n 0) 10 := ⟨1, rfl, Or.inr rfl, rfl⟩
set_option maxRecDepth 100000 in
theorem lk190_10 : xAt kT190 10 (.getfield 31) 13 := ⟨3, rfl, Or.inr rfl, rfl⟩
set_option maxRecDepth 100000 in
theorem lk190_13 : xAt kT190 13 (.iload_n 1) 14 := ⟨1, rfl, Or.inr rfl, rfl⟩
set_option maxRecDepth 100000 in
theorem lk190_14 : xAt kT190 14 (.invokevirtual 59) 17 := ⟨3, rfl, Or.inr rfl, rfl⟩
set_option maxRecDepth 100000 in
theorem lk190_17 : xAt kT190 17 (.checkcast 52) 20 := ⟨3, rfl, Or.inr rfl, rfl⟩
set_option maxRecDepth 100000 in
theorem lk190_20 : xAt kT190 20 (.invokevirtual 73) 23 := ⟨3, rfl, Or.inr rfl, rfl⟩
set_option maxRecDepth 100000 in
theorem lk190_23 : xAt kT190 23 (.return_) 24 := ⟨1, rfl, Or.inr rfl, rfl⟩
set_option maxRecDepth 100000 in
theorem lk191_0 : xAt kT191 0 (.iconst (-1)) 1 := ⟨1, rfl, Or.inr rfl, rfl⟩
set_option maxRecDepth 100000 in
theorem lk191_1 : xAt kT191 1 (.istore_n 1) 2 := ⟨1, rfl, Or.inr rfl, rfl⟩
set_option maxRecDepth 100000 in
theorem lk191_2 : xAt kT191 2 (.iconst 0) 3 := ⟨1, rfl, Or.inr rfl, rfl⟩
set_option maxRecDepth 100000 in
theorem lk191_3 : xAt kT191 3 (.istore_n 2) 4 := ⟨1, rfl, Or.inr rfl, rfl⟩
set_option maxRecDepth 100000 in
theorem lk191_4 : xAt kT191 4 (.iload_n 2) 5 := ⟨1, rfl, Or.inr rfl, rfl⟩
set_option maxRecDepth 100000 in
theorem lk191_5 : xAt kT191 5 (.bipush 23) 7 := ⟨2, rfl, Or.inr rfl, rfl⟩
set_option maxRecDepth 100000 in
theorem lk191_7 : xAt kT191 7 (.if_icmp .ge 71) 10 := ⟨3, rfl, Or.inr rfl, rfl⟩
set_option maxRecDepth 100000 in
theorem lk191_10 : xAt kT191 10 (.aload_n 0) 11 := ⟨1, rfl, Or.inr rfl, rfl⟩
set_option maxRecDepth 100000 in
theorem lk191_11 : xAt kT191 11 (.getfield 9) 14 := ⟨3, rfl, Or.inr rfl, rfl⟩
set_option maxRecDepth 100000 in
theorem lk191_14 : xAt kT191 14 (.iload_n 2) 15 := ⟨1, rfl, Or.inr rfl, rfl⟩
set_option maxRecDepth 100000 in
theorem lk191_15 : xAt kT191 15 (.iaload) 16 := ⟨1, rfl, Or.inr rfl, rfl⟩
set_option maxRecDepth 100000 in
theorem lk191_16 : xAt kT191 16 (.iconst (-1)) 17 := ⟨1, rfl, Or.inr rfl, rfl⟩
set_option maxRecDepth 100000 in
theorem lk191_17 : xAt kT191 17 (.if_icmp .eq 55) 20 := ⟨3, rfl, Or.inr rfl, rfl⟩
set_option maxRecDepth 100000 in
theorem lk191_20 : xAt kT191 20 (.iload_n 1) 21 := ⟨1, rfl, Or.inr rfl, rfl⟩
set_option maxRecDepth 100000 in
theorem lk191_21 : xAt kT191 21 (.iconst (-1)) 22 := ⟨1, rfl, Or.inr rfl, rfl⟩
set_option maxRecDepth 100000 in
theorem lk191_22 : xAt kT191 22 (.if_icmp .eq 48) 25 := ⟨3, rfl, Or.inr rfl, rfl⟩
set_option maxRecDepth 100000 in
theorem lk191_25 : xAt kT191 25 (.aload_n 0) 26 := ⟨1, rfl, Or.inr rfl, rfl⟩
set_option maxRecDepth 100000 in
theorem lk191_26 : xAt kT191 26 (.getfield 9) 29 := ⟨3, rfl, Or.inr rfl, rfl⟩
set_option maxRecDepth 100000 in
theorem lk191_29 : xAt kT191 29 (.iload_n 2) 30 := ⟨1, rfl, Or.inr rfl, rfl⟩
set_option maxRecDepth 100000 in
theorem lk191_30 : xAt kT191 30 (.iaload) 31 := ⟨1, rfl, Or.inr rfl, rfl⟩
set_option maxRecDepth 100000 in
theorem lk191_31 : xAt kT191 31 (.aload_n 0) 32 := ⟨1, rfl, Or.inr rfl, rfl⟩
set_option maxRecDepth 100000 in
theorem lk191_32 : xAt kT191 32 (.getfield 9) 35 := ⟨3, rfl, Or.inr rfl, rfl⟩
set_option maxRecDepth 100000 in
theorem lk191_35 : xAt kT191 35 (.iload_n 1) 36 := ⟨1, rfl, Or.inr rfl, rfl⟩
set_option maxRecDepth 100000 in
theorem lk191_36 : xAt kT191 36 (.iaload) 37 := ⟨1, rfl, Or.inr rfl, rfl⟩
set_option maxRecDepth 100000 in
theorem lk191_37 : xAt kT191 37 (.if_icmp .lt 33) 40 := ⟨3, rfl, Or.inr rfl, rfl⟩
set_option maxRecDepth 100000 in
theorem lk191_40 : xAt kT191 40 (.aload_n 0) 41 := ⟨1, rfl, Or.inr rfl, rfl⟩
set_option maxRecDepth 100000 in
theorem lk191_41 : xAt kT191 41 (.getfield 9) 44 := ⟨3, rfl, Or.inr rfl, rfl⟩
set_option maxRecDepth 100000 in
theorem lk191_44 : xAt kT191 44 (.iload_n 2) 45 := ⟨1, rfl, Or.inr rfl, rfl⟩
set_option maxRecDepth 100000 in
theorem lk191_45 : xAt kT191 45 (.iaload) 46 := ⟨1, rfl, Or.inr rfl, rfl⟩
set_option maxRecDepth 100000 in
theorem lk191_46 : xAt kT191 46 (.aload_n 0) 47 := ⟨1, rfl, Or.inr rfl, rfl⟩
set_option maxRecDepth 100000 in
theorem lk191_47 : xAt kT191 47 (.getfield 9) 50 := ⟨3, rfl, Or.inr rfl, rfl⟩
set_option maxRecDepth 100000 in
theorem lk191_50 : xAt kT191 50 (.iload_n 1) 51 := ⟨1, rfl, Or.inr rfl, rfl⟩
set_option maxRecDepth 100000 in
theorem lk191_51 : xAt kT191 51 (.iaload) 52 := ⟨1, rfl, Or.inr rfl, rfl⟩
set_option maxRecDepth 100000 in
theorem lk191_52 : xAt kT191 52 (.if_icmp .ne 20) 55 := ⟨3, rfl, Or.inr rfl, rfl⟩
set_option maxRecDepth 100000 in
theorem lk191_55 : xAt kT191 55 (.aload_n 0) 56 := ⟨1, rfl, Or.inr rfl, rfl⟩
set_option maxRecDepth 100000 in
theorem lk191_56 : xAt kT191 56 (.getfield 15) 59 := ⟨3, rfl, Or.inr rfl, rfl⟩
set_option maxRecDepth 100000 in
theorem lk191_59 : xAt kT191 59 (.iload_n 2) 60 := ⟨1, rfl, Or.inr rfl, rfl⟩
set_option maxRecDepth 100000 in
theorem lk191_60 : xAt kT191 60 (.iaload) 61 := ⟨1, rfl, Or.inr rfl, rfl⟩
set_option maxRecDepth 100000 in
theorem lk191_61 : xAt kT191 61 (.aload_n 0) 62 := ⟨1, rfl, Or.inr rfl, rfl⟩
set_option maxRecDepth 100000 in
theorem lk191_62 : xAt kT191 62 (.getfield 15) 65 := ⟨3, rfl, Or.inr rfl, rfl⟩
set_option maxRecDepth 100000 in
theorem lk191_65 : xAt kT191 65 (.iload_n 1) 66 := ⟨1, rfl, Or.inr rfl, rfl⟩
set_option maxRecDepth 100000 in
theorem lk191_66 : xAt kT191 66 (.iaload) 67 := ⟨1, rfl, Or.inr rfl, rfl⟩
set_option maxRecDepth 100000 in
theorem lk191_67 : xAt kT191 67 (.if_icmp .ge 5) 70 := ⟨3, rfl, Or.inr rfl, rfl⟩
set_option maxRecDepth 100000 in
theorem lk191_70 : xAt kT191 70 (.iload_n 2) 71 := ⟨1, rfl, Or.inr rfl, rfl⟩
set_option maxRecDepth 100000 in
theorem lk191_71 : xAt kT191 71 (.istore_n 1) 72 := ⟨1, rfl, Or.inr rfl, rfl⟩
set_option maxRecDepth 100000 in
theorem lk191_72 : xAt kT191 72 (.iinc 2 1) 75 := ⟨3, rfl, Or.inr rfl, rfl⟩
set_option maxRecDepth 100000 in
theorem lk191_75 : xAt kT191 75 (.goto (-71)) 78 := ⟨3, rfl, Or.inr rfl, rfl⟩
set_option maxRecDepth 100000 in
theorem lk191_78 : xAt kT191 78 (.iload_n 1) 79 := ⟨1, rfl, Or.inr rfl, rfl⟩
set_option maxRecDepth 100000 in
theorem lk191_79 : xAt kT191 79 (.ireturn) 80 := ⟨1, rfl, Or.inr rfl, rfl⟩
set_option maxRecDepth 100000 in
theorem lk192_0 : xAt kT192 0 (.aload_n 0) 1 := ⟨1, rfl, Or.inr rfl, rfl⟩
set_option maxRecDepth 100000 in
theorem lk192_1 : xAt kT192 1 (.getfield 31) 4 := ⟨3, rfl, Or.inr rfl, rfl⟩
set_option maxRecDepth 100000 in
theorem lk192_4 : xAt kT192 4 (.invokevirtual 48) 7 := ⟨3, rfl, Or.inr rfl, rfl⟩
set_option maxRecDepth 100000 in
theorem lk192_7 : xAt kT192 7 (.ifCond .eq 7) 10 := ⟨3, rfl, Or.inr rfl, rfl⟩
set_option maxRecDepth 100000 in
theorem lk192_10 : xAt kT192 10 (.aconst_null) 11 := ⟨1, rfl, Or.inr rfl, rfl⟩
set_option maxRecDepth 100000 in
theorem lk192_11 : xAt kT192 11 (.goto 14) 14 := ⟨3, rfl, Or.inr rfl, rfl⟩
set_option maxRecDepth 100000 in
theorem lk192_14 : xAt kT192 14 (.aload_n 0) 15 := ⟨1, rfl, Or.inr rfl, rfl⟩
set_option maxRecDepth 100000 in
theorem lk192_15 : xAt kT192 15 (.getfield 31) 18 := ⟨3, rfl, Or.inr rfl, rfl⟩
set_option maxRecDepth 100000 in
theorem lk192_18 : xAt kT192 18 (.iconst 0) 19 := ⟨1, rfl, Or.inr rfl, rfl⟩
set_option maxRecDepth 100000 in
theorem lk192_19 : xAt kT192 19 (.invokevirtual 127) 22 := ⟨3, rfl, Or.inr rfl, rfl⟩
set_option maxRecDepth 100000 in
theorem lk192_22 : xAt kT192 22 (.checkcast 52) 25 := ⟨3, rfl, Or.inr rfl, rfl⟩
set_option maxRecDepth 100000 in
theorem lk192_25 : xAt kT192 25 (.areturn) 26 := ⟨1, rfl, Or.inr rfl, rfl⟩
set_option maxRecDepth 100000 in
theorem lk196_0 : xAt kT196 0 (.aload_n 1) 1 := ⟨1, rfl, Or.inr rfl, rfl⟩
set_option maxRecDepth 100000 in
theorem lk196_1 : xAt kT196 1 (.getfield 115) 4 := ⟨3, rfl, Or.inr rfl, rfl⟩
set_option maxRecDepth 100000 in
theorem lk196_4 : xAt kT196 4 (.aload_n 0) 5 := ⟨1, rfl, Or.inr rfl, rfl⟩
set_option maxRecDepth 100000 in
theorem lk196_5 : xAt kT196 5 (.getfield 9) 8 := ⟨3, rfl, Or.inr rfl, rfl⟩
set_option maxRecDepth 100000 in
theorem lk196_8 : xAt kT196 8 (.iload_n 2) 9 := ⟨1, rfl, Or.inr rfl, rfl⟩
set_option maxRecDepth 100000 in
theorem lk196_9 : xAt kT196 9 (.iaload) 10 := ⟨1, rfl, Or.inr rfl, rfl⟩
set_option maxRecDepth 100000 in
theorem lk196_10 : xAt kT196 10 (.if_icmp .lt 29) 13 := ⟨3, rfl, Or.inr rfl, rfl⟩
set_option maxRecDepth 100000 in
theorem lk196_13 : xAt kT196 13 (.aload_n 1) 14 := ⟨1, rfl, Or.inr rfl, rfl⟩
set_option maxRecDepth 100000 in
theorem lk196_14 : xAt kT196 14 (.getfield 115) 17 := ⟨3, rfl, Or.inr rfl, rfl⟩
set_option maxRecDepth 100000 in
theorem lk196_17 : xAt kT196 17 (.aload_n 0) 18 := ⟨1, rfl, Or.inr rfl, rfl⟩
set_option maxRecDepth 100000 in
theorem lk196_18 : xAt kT196 18 (.getfield 9) 21 := ⟨3, rfl, Or.inr rfl, rfl⟩
set_option maxRecDepth 100000 in
theorem lk196_21 : xAt kT196 21 (.iload_n 2) 22 := ⟨1, rfl, Or.inr rfl, rfl⟩
set_option maxRecDepth 100000 in
theorem lk196_22 : xAt kT196 22 (.iaload) 23 := ⟨1, rfl, Or.inr rfl, rfl⟩
set_option maxRecDepth 100000 in
theorem lk196_23 : xAt kT196 23 (.if_icmp .ne 20) 26 := ⟨3, rfl, Or.inr rfl, rfl⟩
set_option maxRecDepth 100000 in
theorem lk196_26 : xAt kT196 26 (.aload_n 1) 27 := ⟨1, rfl, Or.inr rfl, rfl⟩
set_option maxRecDepth 100000 in
theorem lk196_27 : xAt kT196 27 (.getfield 121) 30 := ⟨3, rfl, Or.inr rfl, rfl⟩
set_option maxRecDepth 100000 in
theorem lk196_30 : xAt kT196 30 (.aload_n 0) 31 := ⟨1, rfl, Or.inr rfl, rfl⟩
set_option maxRecDepth 100000 in
theorem lk196_31 : xAt kT196 31 (.getfield 15) 34 := ⟨3, rfl, Or.inr rfl, rfl⟩
set_option maxRecDepth 100000 in
theorem lk196_34 : xAt kT196 34 (.iload_n 2) 35 := ⟨1, rfl, Or.inr rfl, rfl⟩
set_option maxRecDepth 100000 in
theorem lk196_35 : xAt kT196 35 (.iaload) 36 := ⟨1, rfl, Or.inr rfl, rfl⟩
set_option maxRecDepth 100000 in
theorem lk196_36 : xAt kT196 36 (.if_icmp .ge 7) 39 := ⟨3, rfl, Or.inr rfl, rfl⟩
set_option maxRecDepth 100000 in
theorem lk196_39 : xAt kT196 39 (.iconst 1) 40 := ⟨1, rfl, Or.inr rfl, rfl⟩
set_option maxRecDepth 100000 in
theorem lk196_40 : xAt kT196 40 (.goto 4) 43 := ⟨3, rfl, Or.inr rfl, rfl⟩
set_option maxRecDepth 100000 in
theorem lk196_43 : xAt kT196 43 (.iconst 0) 44 := ⟨1, rfl, Or.inr rfl, rfl⟩
set_option maxRecDepth 100000 in
theorem lk196_44 : xAt kT196 44 (.ireturn) 45 := ⟨1, rfl, Or.inr rfl, rfl⟩
set_option maxRecDepth 100000 in
theorem lk201_0 : xAt kT201 0 (.aload_n 0) 1 := ⟨1, rfl, Or.inr rfl, rfl⟩
set_option maxRecDepth 100000 in
theorem lk201_1 : xAt kT201 1 (.aload_n 0) 2 := ⟨1, rfl, Or.inr rfl, rfl⟩
set_option maxRecDepth 100000 in
theorem lk201_2 : xAt kT201 2 (.getfield 9) 5 := ⟨3, rfl, Or.inr rfl, rfl⟩
set_option maxRecDepth 100000 in
theorem lk201_5 : xAt kT201 5 (.iload_n 1) 6 := ⟨1, rfl, Or.inr rfl, rfl⟩
set_option maxRecDepth 100000 in
theorem lk201_6 : xAt kT201 6 (.iaload) 7 := ⟨1, rfl, Or.inr rfl, rfl⟩
set_option maxRecDepth 100000 in
theorem lk201_7 : xAt kT201 7 (.putfield 77) 10 := ⟨3, rfl, Or.inr rfl, rfl⟩
set_option maxRecDepth 100000 in
theorem lk201_10 : xAt kT201 10 (.aload_n 0) 11 := ⟨1, rfl, Or.inr rfl, rfl⟩
set_option maxRecDepth 100000 in
theorem lk201_11 : xAt kT201 11 (.dup) 12 := ⟨1, rfl, Or.inr rfl, rfl⟩
set_option maxRecDepth 100000 in
theorem lk201_12 : xAt kT201 12 (.getfield 141) 15 := ⟨3, rfl, Or.inr rfl, rfl⟩
set_option maxRecDepth 100000 in
theorem lk201_15 : xAt kT201 15 (.iconst 1) 16 := ⟨1, rfl, Or.inr rfl, rfl⟩
set_option maxRecDepth 100000 in
theorem lk201_16 : xAt kT201 16 (.iadd) 17 := ⟨1, rfl, Or.inr rfl, rfl⟩
set_option maxRecDepth 100000 in
theorem lk201_17 : xAt kT201 17 (.putfield 141) 20 := ⟨3, rfl, Or.inr rfl, rfl⟩
set_option maxRecDepth 100000 in
theorem lk201_20 : xAt kT201 20 (.aload_n 0) 21 := ⟨1, rfl, Or.inr rfl, rfl⟩
set_option maxRecDepth 100000 in
theorem lk201_21 : xAt kT201 21 (.iload_n 1) 22 := ⟨1, rfl, Or.inr rfl, rfl⟩
set_option maxRecDepth 100000 in
theorem lk201_22 : xAt kT201 22 (.invokevirtual 144) 25 := ⟨3, rfl, Or.inr rfl, rfl⟩
set_option maxRecDepth 100000 in
theorem lk201_25 : xAt kT201 25 (.return_) 26 := ⟨1, rfl, Or.inr rfl, rfl⟩
set_option maxRecDepth 100000 in
theorem lk202_0 : xAt kT202 0 (.aload_n 0) 1 := ⟨1, rfl, Or.inr rfl, rfl⟩
set_option maxRecDepth 100000 in
theorem lk202_1 : xAt kT202 1 (.getfield 31) 4 := ⟨3, rfl, Or.inr rfl, rfl⟩
set_option maxRecDepth 100000 in
theorem lk202_4 : xAt kT202 4 (.invokevirtual 48) 7 := ⟨3, rfl, Or.inr rfl, rfl⟩
set_option maxRecDepth 100000 in
theorem lk202_7 : xAt kT202 7 (.ifCond .ne 31) 10 := ⟨3, rfl, Or.inr rfl, rfl⟩
set_option maxRecDepth 100000 in
theorem lk202_10 : xAt kT202 10 (.aload_n 0) 11 := ⟨1, rfl, Or.inr rfl, rfl⟩
set_option maxRecDepth 100000 in
theorem lk202_11 : xAt kT202 11 (.aload_n 0) 12 := ⟨1, rfl, Or.inr rfl, rfl⟩
set_option maxRecDepth 100000 in
theorem lk202_12 : xAt kT202 12 (.getfield 31) 15 := ⟨3, rfl, Or.inr rfl, rfl⟩
set_option maxRecDepth 100000 in
theorem lk202_15 : xAt kT202 15 (.iconst 0) 16 := ⟨1, rfl, Or.inr rfl, rfl⟩
set_option maxRecDepth 100000 in
theorem lk202_16 : xAt kT202 16 (.invokevirtual 59) 19 := ⟨3, rfl, Or.inr rfl, rfl⟩
set_option maxRecDepth 100000 in
theorem lk202_19 : xAt kT202 19 (.checkcast 52) 22 := ⟨3, rfl, Or.inr rfl, rfl⟩
set_option maxRecDepth 100000 in
theorem lk202_22 : xAt kT202 22 (.getfield 115) 25 := ⟨3, rfl, Or.inr rfl, rfl⟩
set_option maxRecDepth 100000 in
theorem lk202_25 : xAt kT202 25 (.putfield 77) 28 := ⟨3, rfl, Or.inr rfl, rfl⟩
set_option maxRecDepth 100000 in
theorem lk202_28 : xAt kT202 28 (.aload_n 0) 29 := ⟨1, rfl, Or.inr rfl, rfl⟩
set_option maxRecDepth 100000 in
theorem lk202_29 : xAt kT202 29 (.dup) 30 := ⟨1, rfl, Or.inr rfl, rfl⟩
set_option maxRecDepth 100000 in
theorem lk202_30 : xAt kT202 30 (.getfield 141) 33 := ⟨3, rfl, Or.inr rfl, rfl⟩
set_option maxRecDepth 100000 in
theorem lk202_33 : xAt kT202 33 (.iconst 1) 34 := ⟨1, rfl, Or.inr rfl, rfl⟩
set_option maxRecDepth 100000 in
theorem lk202_34 : xAt kT202 34 (.iadd) 35 := ⟨1, rfl, Or.inr rfl, rfl⟩
set_option maxRecDepth 100000 in
theorem lk202_35 : xAt kT202 35 (.putfield 141) 38 := ⟨3, rfl, Or.inr rfl, rfl⟩
set_option maxRecDepth 100000 in
theorem lk202_38 : xAt kT202 38 (.return_) 39 := ⟨1, rfl, Or.inr rfl, rfl⟩
set_option maxRecDepth 100000 in
theorem lk217_0 : xAt kT217 0 (.aload_n 0) 1 := ⟨1, rfl, Or.inr rfl, rfl⟩
set_option maxRecDepth 100000 in
theorem lk217_1 : xAt kT217 1 (.getfield 42) 4 := ⟨3, rfl, Or.inr rfl, rfl⟩
set_option maxRecDepth 100000 in
theorem lk217_4 : xAt kT217 4 (.invokevirtual 324) 7 := ⟨3, rfl, Or.inr rfl, rfl⟩
set_option maxRecDepth 100000 in
theorem lk217_7 : xAt kT217 7 (.astore_n 2) 8 := ⟨1, rfl, Or.inr rfl, rfl⟩
set_option maxRecDepth 100000 in
theorem lk217_8 : xAt kT217 8 (.aload_n 0) 9 := ⟨1, rfl, Or.inr rfl, rfl⟩
set_option maxRecDepth 100000 in
theorem lk217_9 : xAt kT217 9 (.getfield 42) 12 := ⟨3, rfl, Or.inr rfl, rfl⟩
set_option maxRecDepth 100000 in
theorem lk217_12 : xAt kT217 12 (.invokevirtual 328) 15 := ⟨3, rfl, Or.inr rfl, rfl⟩
set_option maxRecDepth 100000 in
theorem lk217_15 : xAt kT217 15 (.istore_n 3) 16 := ⟨1, rfl, Or.inr rfl, rfl⟩
set_option maxRecDepth 100000 in
theorem lk217_16 : xAt kT217 16 (.aload_n 2) 17 := ⟨1, rfl, Or.inr rfl, rfl⟩
set_option maxRecDepth 100000 in
theorem lk217_17 : xAt kT217 17 (.ifnull 156) 20 := ⟨3, rfl, Or.inr rfl, rfl⟩
set_option maxRecDepth 100000 in
theorem lk217_20 : xAt kT217 20 (.iload_n 3) 21 := ⟨1, rfl, Or.inr rfl, rfl⟩
set_option maxRecDepth 100000 in
theorem lk217_21 : xAt kT217 21 (.iconst (-1)) 22 := ⟨1, rfl, Or.inr rfl, rfl⟩
set_option maxRecDepth 100000 in
theorem lk217_22 : xAt kT217 22 (.if_icmp .eq 15) 25 := ⟨3, rfl, Or.inr rfl, rfl⟩
set_option maxRecDepth 100000 in
theorem lk217_25 : xAt kT217 25 (.aload_n 0) 26 := ⟨1, rfl, Or.inr rfl, rfl⟩
set_option maxRecDepth 100000 in
theorem lk217_26 : xAt kT217 26 (.getfield 42) 29 := ⟨3, rfl, Or.inr rfl, rfl⟩
set_option maxRecDepth 100000 in
theorem lk217_29 : xAt kT217 29 (.aload_n 2) 30 := ⟨1, rfl, Or.inr rfl, rfl⟩
set_option maxRecDepth 100000 in
theorem lk217_30 : xAt kT217 30 (.iload_n 3) 31 := ⟨1, rfl, Or.inr rfl, rfl⟩
set_option maxRecDepth 100000 in
theorem lk217_31 : xAt kT217 31 (.invokevirtual 331) 34 := ⟨3, rfl, Or.inr rfl, rfl⟩
set_option maxRecDepth 100000 in
theorem lk217_34 : xAt kT217 34 (.ifCond .eq 139) 37 := ⟨3, rfl, Or.inr rfl, rfl⟩
set_option maxRecDepth 100000 in
theorem lk217_37 : xAt kT217 37 (.aload_n 2) 38 := ⟨1, rfl, Or.inr rfl, rfl⟩
set_option maxRecDepth 100000 in
theorem lk217_38 : xAt kT217 38 (.getfield 272) 41 := ⟨3, rfl, Or.inr rfl, rfl⟩
set_option maxRecDepth 100000 in
theorem lk217_41 : xAt kT217 41 (.iload_n 1) 42 := ⟨1, rfl, Or.inr rfl, rfl⟩
set_option maxRecDepth 100000 in
theorem lk217_42 : xAt kT217 42 (.if_icmp .le 5) 45 := ⟨3, rfl, Or.inr rfl, rfl⟩
set_option maxRecDepth 100000 in
theorem lk217_45 : xAt kT217 45 (.iconst (-1)) 46 := ⟨1, rfl, Or.inr rfl, rfl⟩
set_option maxRecDepth 100000 in
theorem lk217_46 : xAt kT217 46 (.ireturn) 47 := ⟨1, rfl, Or.inr rfl, rfl⟩
set_option maxRecDepth 100000 in
theorem lk217_47 : xAt kT217 47 (.aload_n 2) 48 := ⟨1, rfl, Or.inr rfl, rfl⟩
set_option maxRecDepth 100000 in
theorem lk217_48 : xAt kT217 48 (.getfield 263) 51 := ⟨3, rfl, Or.inr rfl, rfl⟩
set_option maxRecDepth 100000 in
theorem lk217_51 : xAt kT217 51 (.istore 4) 53 := ⟨2, rfl, Or.inr rfl, rfl⟩
set_option maxRecDepth 100000 in
theorem lk217_53 : xAt kT217 53 (.aload_n 0) 54 := ⟨1, rfl, Or.inr rfl, rfl⟩
set_option maxRecDepth 100000 in
theorem lk217_54 : xAt kT217 54 (.getfield 42) 57 := ⟨3, rfl, Or.inr rfl, rfl⟩
set_option maxRecDepth 100000 in
theorem lk217_57 : xAt kT217 57 (.invokevirtual 335) 60 := ⟨3, rfl, Or.inr rfl, rfl⟩
set_option maxRecDepth 100000 in
theorem lk217_60 : xAt kT217 60 (.aload_n 0) 61 := ⟨1, rfl, Or.inr rfl, rfl⟩
set_option maxRecDepth 100000 in
theorem lk217_61 : xAt kT217 61 (.getfield 42) 64 := ⟨3, rfl, Or.inr rfl, rfl⟩
set_option maxRecDepth 100000 in
theorem lk217_64 : xAt kT217 64 (.aload_n 2) 65 := ⟨1, rfl, Or.inr rfl, rfl⟩
set_option maxRecDepth 100000 in
theorem lk217_65 : xAt kT217 65 (.getfield 260) 68 := ⟨3, rfl, Or.inr rfl, rfl⟩
set_option maxRecDepth 100000 in
theorem lk217_68 : xAt kT217 68 (.iload 4) 70 := ⟨2, rfl, Or.inr rfl, rfl⟩
set_option maxRecDepth 100000 in
theorem lk217_70 : xAt kT217 70 (.invokevirtual 338) 73 := ⟨3, rfl, Or.inr rfl, rfl⟩
set_option maxRecDepth 100000 in
theorem lk217_73 : xAt kT217 73 (.ifCond .ne 23) 76 := ⟨3, rfl, Or.inr rfl, rfl⟩
set_option maxRecDepth 100000 in
theorem lk217_76 : xAt kT217 76 (.iload 4) 78 := ⟨2, rfl, Or.inr rfl, rfl⟩
set_option maxRecDepth 100000 in
theorem lk217_78 : xAt kT217 78 (.bipush 7) 80 := ⟨2, rfl, Or.inr rfl, rfl⟩
set_option maxRecDepth 100000 in
theorem lk217_80 : xAt kT217 80 (.if_icmp .ge 32) 83 := ⟨3, rfl, Or.inr rfl, rfl⟩
set_option maxRecDepth 100000 in
theorem lk217_83 : xAt kT217 83 (.aload_n 0) 84 := ⟨1, rfl, Or.inr rfl, rfl⟩
set_option maxRecDepth 100000 in
theorem lk217_84 : xAt kT217 84 (.getfield 11) 87 := ⟨3, rfl, Or.inr rfl, rfl⟩
set_option maxRecDepth 100000 in
theorem lk217_87 : xAt kT217 87 (.iload 4) 89 := ⟨2, rfl, Or.inr rfl, rfl⟩
set_option maxRecDepth 100000 in
theorem lk217_89 : xAt kT217 89 (.aaload) 90 := ⟨1, rfl, Or.inr rfl, rfl⟩
set_option maxRecDepth 100000 in
theorem lk217_90 : xAt kT217 90 (.getfield 165) 93 := ⟨3, rfl, Or.inr rfl, rfl⟩
set_option maxRecDepth 100000 in
theorem lk217_93 : xAt kT217 93 (.ifCond .ne 19) 96 := ⟨3, rfl, Or.inr rfl, rfl⟩
set_option maxRecDepth 100000 in
theorem lk217_96 : xAt kT217 96 (.aload_n 0) 97 := ⟨1, rfl, Or.inr rfl, rfl⟩
set_option maxRecDepth 100000 in
theorem lk217_97 : xAt kT217 97 (.getfield 42) 100 := ⟨3, rfl, Or.inr rfl, rfl⟩
set_option maxRecDepth 100000 in
theorem lk217_100 : xAt kT217 100 (.dup) 101 := ⟨1, rfl, Or.inr rfl, rfl⟩
set_option maxRecDepth 100000 in
theorem lk217_101 : xAt kT217 101 (.getfield 308) 104 := ⟨3, rfl, Or.inr rfl, rfl⟩
set_option maxRecDepth 100000 in
theorem lk217_104 : xAt kT217 104 (.iconst 1) 105 := ⟨1, rfl, Or.inr rfl, rfl⟩
set_option maxRecDepth 100000 in
theorem lk217_105 : xAt kT217 105 (.iadd) 106 := ⟨1, rfl, Or.inr rfl, rfl⟩
set_option maxRecDepth 100000 in
theorem lk217_106 : xAt kT217 106 (.putfield 308) 109 := ⟨3, rfl, Or.inr rfl, rfl⟩
set_option maxRecDepth 100000 in
theorem lk217_109 : xAt kT217 109 (.goto 49) 112 := ⟨3, rfl, Or.inr rfl, rfl⟩
set_option maxRecDepth 100000 in
theorem lk217_112 : xAt kT217 112 (.iload 4) 114 := ⟨2, rfl, Or.inr rfl, rfl⟩
set_option maxRecDepth 100000 in
theorem lk217_114 : xAt kT217 114 (.bipush 7) 116 := ⟨2, rfl, Or.inr rfl, rfl⟩
set_option maxRecDepth 100000 in
theorem lk217_116 : xAt kT217 116 (.if_icmp .ge 28) 119 := ⟨3, rfl, Or.inr rfl, rfl⟩
set_option maxRecDepth 100000 in
theorem lk217_119 : xAt kT217 119 (.aload_n 0) 120 := ⟨1, rfl, Or.inr rfl, rfl⟩
set_option maxRecDepth 100000 in
theorem lk217_120 : xAt kT217 120 (.getfield 11) 123 := ⟨3, rfl, Or.inr rfl, rfl⟩
set_option maxRecDepth 100000 in
theorem lk217_123 : xAt kT217 123 (.iload 4) 125 := ⟨2, rfl, Or.inr rfl, rfl⟩
set_option maxRecDepth 100000 in
theorem lk217_125 : xAt kT217 125 (.aaload) 126 := ⟨1, rfl, Or.inr rfl, rfl⟩
set_option maxRecDepth 100000 in
theorem lk217_126 : xAt kT217 126 (.aload_n 2) 127 := ⟨1, rfl, Or.inr rfl, rfl⟩
set_option maxRecDepth 100000 in
theorem lk217_127 : xAt kT217 127 (.invokevirtual 342) 130 := ⟨3, rfl, Or.inr rfl, rfl⟩
set_option maxRecDepth 100000 in
theorem lk217_130 : xAt kT217 130 (.aload_n 0) 131 := ⟨1, rfl, Or.inr rfl, rfl⟩
set_option maxRecDepth 100000 in
theorem lk217_131 : xAt kT217 131 (.getfield 11) 134 := ⟨3, rfl, Or.inr rfl, rfl⟩
set_option maxRecDepth 100000 in
theorem lk217_134 : xAt kT217 134 (.iload 4) 136 := ⟨2, rfl, Or.inr rfl, rfl⟩
set_option maxRecDepth 100000 in
theorem lk217_136 : xAt kT217 136 (.aaload) 137 := ⟨1, rfl, Or.inr rfl, rfl⟩
set_option maxRecDepth 100000 in
theorem lk217_137 : xAt kT217 137 (.aload_n 2) 138 := ⟨1, rfl, Or.inr rfl, rfl⟩
set_option maxRecDepth 100000 in
theorem lk217_138 : xAt kT217 138 (.invokevirtual 346) 141 := ⟨3, rfl, Or.inr rfl, rfl⟩
set_option maxRecDepth 100000 in
theorem lk217_141 : xAt kT217 141 (.goto 17) 144 := ⟨3, rfl, Or.inr rfl, rfl⟩
set_option maxRecDepth 100000 in
theorem lk217_144 : xAt kT217 144 (.aload_n 0) 145 := ⟨1, rfl, Or.inr rfl, rfl⟩
set_option maxRecDepth 100000 in
theorem lk217_145 : xAt kT217 145 (.getfield 17) 148 := ⟨3, rfl, Or.inr rfl, rfl⟩
set_option maxRecDepth 100000 in
theorem lk217_148 : xAt kT217 148 (.iload 4) 150 := ⟨2, rfl, Or.inr rfl, rfl⟩
set_option maxRecDepth 100000 in
theorem lk217_150 : xAt kT217 150 (.bipush 8) 152 := ⟨2, rfl, Or.inr rfl, rfl⟩
set_option maxRecDepth 100000 in
theorem lk217_152 : xAt kT217 152 (.isub) 153 := ⟨1, rfl, Or.inr rfl, rfl⟩
set_option maxRecDepth 100000 in
theorem lk217_153 : xAt kT217 153 (.aaload) 154 := ⟨1, rfl, Or.inr rfl, rfl⟩
set_option maxRecDepth 100000 in
theorem lk217_154 : xAt kT217 154 (.aload_n 2) 155 := ⟨1, rfl, Or.inr rfl, rfl⟩
set_option maxRecDepth 100000 in
theorem lk217_155 : xAt kT217 155 (.invokevirtual 349) 158 := ⟨3, rfl, Or.inr rfl, rfl⟩
set_option maxRecDepth 100000 in
theorem lk217_158 : xAt kT217 158 (.aload_n 0) 159 := ⟨1, rfl, Or.inr rfl, rfl⟩
set_option maxRecDepth 100000 in
theorem lk217_159 : xAt kT217 159 (.getfield 42) 162 := ⟨3, rfl, Or.inr rfl, rfl⟩
set_option maxRecDepth 100000 in
theorem lk217_162 : xAt kT217 162 (.getfield 352) 165 := ⟨3, rfl, Or.inr rfl, rfl⟩
set_option maxRecDepth 100000 in
theorem lk217_165 : xAt kT217 165 (.aload_n 2) 166 := ⟨1, rfl, Or.inr rfl, rfl⟩
set_option maxRecDepth 100000 in
theorem lk217_166 : xAt kT217 166 (.invokevirtual 355) 169 := ⟨3, rfl, Or.inr rfl, rfl⟩
set_option maxRecDepth 100000 in
theorem lk217_169 : xAt kT217 169 (.pop) 170 := ⟨1, rfl, Or.inr rfl, rfl⟩
set_option maxRecDepth 100000 in
theorem lk217_170 : xAt kT217 170 (.iload 4) 172 := ⟨2, rfl, Or.inr rfl, rfl⟩
set_option maxRecDepth 100000 in
theorem lk217_172 : xAt kT217 172 (.ireturn) 173 := ⟨1, rfl, Or.inr rfl, rfl⟩
set_option maxRecDepth 100000 in
theorem lk217_173 : xAt kT217 173 (.iload_n 3) 174 := ⟨1, rfl, Or.inr rfl, rfl⟩
set_option maxRecDepth 100000 in
theorem lk217_174 : xAt kT217 174 (.iconst (-1)) 175 := ⟨1, rfl, Or.inr rfl, rfl⟩
set_option maxRecDepth 100000 in
theorem lk217_175 : xAt kT217 175 (.if_icmp .eq 16) 178 := ⟨3, rfl, Or.inr rfl, rfl⟩
set_option maxRecDepth 100000 in
theorem lk217_178 : xAt kT217 178 (.aload_n 0) 179 := ⟨1, rfl, Or.inr rfl, rfl⟩
set_option maxRecDepth 100000 in
theorem lk217_179 : xAt kT217 179 (.getfield 42) 182 := ⟨3, rfl, Or.inr rfl, rfl⟩
set_option maxRecDepth 100000 in
theorem lk217_182 : xAt kT217 182 (.getfield 358) 185 := ⟨3, rfl, Or.inr rfl, rfl⟩
set_option maxRecDepth 100000 in
theorem lk217_185 : xAt kT217 185 (.iload_n 3) 186 := ⟨1, rfl, Or.inr rfl, rfl⟩
set_option maxRecDepth 100000 in
theorem lk217_186 : xAt kT217 186 (.iaload) 187 := ⟨1, rfl, Or.inr rfl, rfl⟩
set_option maxRecDepth 100000 in
theorem lk217_187 : xAt kT217 187 (.iload_n 1) 188 := ⟨1, rfl, Or.inr rfl, rfl⟩
set_option maxRecDepth 100000 in
theorem lk217_188 : xAt kT217 188 (.if_icmp .le 5) 191 := ⟨3, rfl, Or.inr rfl, rfl⟩
set_option maxRecDepth 100000 in
theorem lk217_191 : xAt kT217 191 (.iconst (-1)) 192 := ⟨1, rfl, Or.inr rfl, rfl⟩
set_option maxRecDepth 100000 in
theorem lk217_192 : xAt kT217 192 (.ireturn) 193 := ⟨1, rfl, Or.inr rfl, rfl⟩
set_option maxRecDepth 100000 in
theorem lk217_193 : xAt kT217 193 (.aload_n 0) 194 := ⟨1, rfl, Or.inr rfl, rfl⟩
set_option maxRecDepth 100000 in
theorem lk217_194 : xAt kT217 194 (.getfield 42) 197 := ⟨3, rfl, Or.inr rfl, rfl⟩
set_option maxRecDepth 100000 in
theorem lk217_197 : xAt kT217 197 (.iload_n 3) 198 := ⟨1, rfl, Or.inr rfl, rfl⟩
set_option maxRecDepth 100000 in
theorem lk217_198 : xAt kT217 198 (.invokevirtual 361) 201 := ⟨3, rfl, Or.inr rfl, rfl⟩
set_option maxRecDepth 100000 in
theorem lk217_201 : xAt kT217 201 (.iload_n 3) 202 := ⟨1, rfl, Or.inr rfl, rfl⟩
set_option maxRecDepth 100000 in
theorem lk217_202 : xAt kT217 202 (.bipush 16) 204 := ⟨2, rfl, Or.inr rfl, rfl⟩
set_option maxRecDepth 100000 in
theorem lk217_204 : xAt kT217 204 (.if_icmp .lt 31) 207 := ⟨3, rfl, Or.inr rfl, rfl⟩
set_option maxRecDepth 100000 in
theorem lk217_207 : xAt kT217 207 (.aload_n 0) 208 := ⟨1, rfl, Or.inr rfl, rfl⟩
set_option maxRecDepth 100000 in
theorem lk217_208 : xAt kT217 208 (.getfield 11) 211 := ⟨3, rfl, Or.inr rfl, rfl⟩
set_option maxRecDepth 100000 in
theorem lk217_211 : xAt kT217 211 (.iload_n 3) 212 := ⟨1, rfl, Or.inr rfl, rfl⟩
set_option maxRecDepth 100000 in
theorem lk217_212 : xAt kT217 212 (.bipush 16) 214 := ⟨2, rfl, Or.inr rfl, rfl⟩
set_option maxRecDepth 100000 in
theorem lk217_214 : xAt kT217 214 (.isub) 215 := ⟨1, rfl, Or.inr rfl, rfl⟩
set_option maxRecDepth 100000 in
theorem lk217_215 : xAt kT217 215 (.aaload) 216 := ⟨1, rfl, Or.inr rfl, rfl⟩
set_option maxRecDepth 100000 in
theorem lk217_216 : xAt kT217 216 (.invokevirtual 364) 219 := ⟨3, rfl, Or.inr rfl, rfl⟩
set_option maxRecDepth 100000 in
theorem lk217_219 : xAt kT217 219 (.aload_n 0) 220 := ⟨1, rfl, Or.inr rfl, rfl⟩
set_option maxRecDepth 100000 in
theorem lk217_220 : xAt kT217 220 (.getfield 11) 223 := ⟨3, rfl, Or.inr rfl, rfl⟩
set_option maxRecDepth 100000 in
theorem lk217_223 : xAt kT217 223 (.iload_n 3) 224 := ⟨1, rfl, Or.inr rfl, rfl⟩
set_option maxRecDepth 100000 in
theorem lk217_224 : xAt kT217 224 (.bipush 16) 226 := ⟨2, rfl, Or.inr rfl, rfl⟩
set_option maxRecDepth 100000 in
theorem lk217_226 : xAt kT217 226 (.isub) 227 := ⟨1, rfl, Or.inr rfl, rfl⟩
set_option maxRecDepth 100000 in
theorem lk217_227 : xAt kT217 227 (.aaload) 228 := ⟨1, rfl, Or.inr rfl, rfl⟩
set_option maxRecDepth 100000 in
theorem lk217_228 : xAt kT217 228 (.aconst_null) 229 := ⟨1, rfl, Or.inr rfl, rfl⟩
set_option maxRecDepth 100000 in
theorem lk217_229 : xAt kT217 229 (.invokevirtual 346) 232 := ⟨3, rfl, Or.inr rfl, rfl⟩
set_option maxRecDepth 100000 in
theorem lk217_232 : xAt kT217 232 (.goto 43) 235 := ⟨3, rfl, Or.inr rfl, rfl⟩
set_option maxRecDepth 100000 in
theorem lk217_235 : xAt kT217 235 (.iload_n 3) 236 := ⟨1, rfl, Or.inr rfl, rfl⟩
set_option maxRecDepth 100000 in
theorem lk217_236 : xAt kT217 236 (.bipush 7) 238 := ⟨2, rfl, Or.inr rfl, rfl⟩
set_option maxRecDepth 100000 in
theorem lk217_238 : xAt kT217 238 (.if_icmp .ge 25) 241 := ⟨3, rfl, Or.inr rfl, rfl⟩
set_option maxRecDepth 100000 in
theorem lk217_241 : xAt kT217 241 (.aload_n 0) 242 := ⟨1, rfl, Or.inr rfl, rfl⟩
set_option maxRecDepth 100000 in
theorem lk217_242 : xAt kT217 242 (.getfield 11) 245 := ⟨3, rfl, Or.inr rfl, rfl⟩
set_option maxRecDepth 100000 in
theorem lk217_245 : xAt kT217 245 (.iload_n 3) 246 := ⟨1, rfl, Or.inr rfl, rfl⟩
set_option maxRecDepth 100000 in
theorem lk217_246 : xAt kT217 246 (.aaload) 247 := ⟨1, rfl, Or.inr rfl, rfl⟩
set_option maxRecDepth 100000 in
theorem lk217_247 : xAt kT217 247 (.invokevirtual 367) 250 := ⟨3, rfl, Or.inr rfl, rfl⟩
set_option maxRecDepth 100000 in
theorem lk217_250 : xAt kT217 250 (.aload_n 0) 251 := ⟨1, rfl, Or.inr rfl, rfl⟩
set_option maxRecDepth 100000 in
theorem lk217_251 : xAt kT217 251 (.getfield 11) 254 := ⟨3, rfl, Or.inr rfl, rfl⟩
set_option maxRecDepth 100000 in
theorem lk217_254 : xAt kT217 254 (.iload_n 3) 255 := ⟨1, rfl, Or.inr rfl, rfl⟩
set_option maxRecDepth 100000 in
theorem lk217_255 : xAt kT217 255 (.aaload) 256 := ⟨1, rfl, Or.inr rfl, rfl⟩
set_option maxRecDepth 100000 in
theorem lk217_256 : xAt kT217 256 (.aconst_null) 257 := ⟨1, rfl, Or.inr rfl, rfl⟩
set_option maxRecDepth 100000 in
theorem lk217_257 : xAt kT217 257 (.invokevirtual 346) 260 := ⟨3, rfl, Or.inr rfl, rfl⟩
set_option maxRecDepth 100000 in
theorem lk217_260 : xAt kT217 260 (.goto 15) 263 := ⟨3, rfl, Or.inr rfl, rfl⟩
set_option maxRecDepth 100000 in
theorem lk217_263 : xAt kT217 263 (.aload_n 0) 264 := ⟨1, rfl, Or.inr rfl, rfl⟩
set_option maxRecDepth 100000 in
theorem lk217_264 : xAt kT217 264 (.getfield 17) 267 := ⟨3, rfl, Or.inr rfl, rfl⟩
set_option maxRecDepth 100000 in
theorem lk217_267 : xAt kT217 267 (.iload_n 3) 268 := ⟨1, rfl, Or.inr rfl, rfl⟩
set_option maxRecDepth 100000 in
theorem lk217_268 : xAt kT217 268 (.bipush 8) 270 := ⟨2, rfl, Or.inr rfl, rfl⟩
set_option maxRecDepth 100000 in
theorem lk217_270 : xAt kT217 270 (.isub) 271 := ⟨1, rfl, Or.inr rfl, rfl⟩
set_option maxRecDepth 100000 in
theorem lk217_271 : xAt kT217 271 (.aaload) 272 := ⟨1, rfl, Or.inr rfl, rfl⟩
set_option maxRecDepth 100000 in
theorem lk217_272 : xAt kT217 272 (.invokevirtual 370) 275 := ⟨3, rfl, Or.inr rfl, rfl⟩
set_option maxRecDepth 100000 in
theorem lk217_275 : xAt kT217 275 (.iload_n 3) 276 := ⟨1, rfl, Or.inr rfl, rfl⟩
set_option maxRecDepth 100000 in
theorem lk217_276 : xAt kT217 276 (.ireturn) 277 := ⟨1, rfl, Or.inr rfl, rfl⟩
