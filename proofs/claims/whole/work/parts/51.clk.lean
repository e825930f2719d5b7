/-! printed by wip/whole/gen_cls.py: where an instruction stands -/
set_option maxRecDepth 100000 in
theorem lk15_0 : xAt kT15 0 (.aload_n 0) 1 := ⟨1, rfl, Or.inr rfl, rfl⟩
set_option maxRecDepth 100000 in
theorem lk15_1 : xAt kT15 1 (.getfield 19) 4 := ⟨3, rfl, Or.inr rfl, rfl⟩
set_option maxRecDepth 100000 in
theorem lk15_4 : xAt kT15 4 (.bipush 10) 6 := ⟨2, rfl, Or.inr rfl, rfl⟩
set_option maxRecDepth 100000 in
theorem lk15_6 : xAt kT15 6 (.imul) 7 := ⟨1, rfl, Or.inr rfl, rfl⟩
set_option maxRecDepth 100000 in
theorem lk15_7 : xAt kT15 7 (.istore 5) 9 := ⟨2, rfl, Or.inr rfl, rfl⟩
set_option maxRecDepth 100000 in
theorem lk15_9 : xAt kT15 9 (.aload_n 0) 10 := ⟨1, rfl, Or.inr rfl, rfl⟩
set_option maxRecDepth 100000 in
theorem lk15_10 : xAt kT15 10 (.getfield 11) 13 := ⟨3, rfl, Or.inr rfl, rfl⟩
set_option maxRecDepth 100000 in
theorem lk15_13 : xAt kT15 13 (.arraylength) 14 := ⟨1, rfl, Or.inr rfl, rfl⟩
set_option maxRecDepth 100000 in
theorem lk15_14 : xAt kT15 14 (.iload 5) 16 := ⟨2, rfl, Or.inr rfl, rfl⟩
set_option maxRecDepth 100000 in
theorem lk15_16 : xAt kT15 16 (.bipush 10) 18 := ⟨2, rfl, Or.inr rfl, rfl⟩
set_option maxRecDepth 100000 in
theorem lk15_18 : xAt kT15 18 (.iadd) 19 := ⟨1, rfl, Or.inr rfl, rfl⟩
set_option maxRecDepth 100000 in
theorem lk15_19 : xAt kT15 19 (.if_icmp .ge 21) 22 := ⟨3, rfl, Or.inr rfl, rfl⟩
set_option maxRecDepth 100000 in
theorem lk15_22 : xAt kT15 22 (.aload_n 0) 23 := ⟨1, rfl, Or.inr rfl, rfl⟩
set_option maxRecDepth 100000 in
theorem lk15_23 : xAt kT15 23 (.aload_n 0) 24 := ⟨1, rfl, Or.inr rfl, rfl⟩
set_option maxRecDepth 100000 in
theorem lk15_24 : xAt kT15 24 (.getfield 11) 27 := ⟨3, rfl, Or.inr rfl, rfl⟩
set_option maxRecDepth 100000 in
theorem lk15_27 : xAt kT15 27 (.iconst 2) 28 := ⟨1, rfl, Or.inr rfl, rfl⟩
set_option maxRecDepth 100000 in
theorem lk15_28 : xAt kT15 28 (.iload 5) 30 := ⟨2, rfl, Or.inr rfl, rfl⟩
set_option maxRecDepth 100000 in
theorem lk15_30 : xAt kT15 30 (.bipush 10) 32 := ⟨2, rfl, Or.inr rfl, rfl⟩
set_option maxRecDepth 100000 in
theorem lk15_32 : xAt kT15 32 (.iadd) 33 := ⟨1, rfl, Or.inr rfl, rfl⟩
set_option maxRecDepth 100000 in
theorem lk15_33 : xAt kT15 33 (.imul) 34 := ⟨1, rfl, Or.inr rfl, rfl⟩
set_option maxRecDepth 100000 in
theorem lk15_34 : xAt kT15 34 (.invokestatic 23) 37 := ⟨3, rfl, Or.inr rfl, rfl⟩
set_option maxRecDepth 100000 in
theorem lk15_37 : xAt kT15 37 (.putfield 11) 40 := ⟨3, rfl, Or.inr rfl, rfl⟩
set_option maxRecDepth 100000 in
theorem lk15_40 : xAt kT15 40 (.aload_n 0) 41 := ⟨1, rfl, Or.inr rfl, rfl⟩
set_option maxRecDepth 100000 in
theorem lk15_41 : xAt kT15 41 (.getfield 11) 44 := ⟨3, rfl, Or.inr rfl, rfl⟩
set_option maxRecDepth 100000 in
theorem lk15_44 : xAt kT15 44 (.iload 5) 46 := ⟨2, rfl, Or.inr rfl, rfl⟩
set_option maxRecDepth 100000 in
theorem lk15_46 : xAt kT15 46 (.iload_n 1) 47 := ⟨1, rfl, Or.inr rfl, rfl⟩
set_option maxRecDepth 100000 in
theorem lk15_47 : xAt kT15 47 (.iastore) 48 := ⟨1, rfl, Or.inr rfl, rfl⟩
set_option maxRecDepth 100000 in
theorem lk15_48 : xAt kT15 48 (.aload_n 0) 49 := ⟨1, rfl, Or.inr rfl, rfl⟩
set_option maxRecDepth 100000 in
theorem lk15_49 : xAt kT15 49 (.getfield 11) 52 := ⟨3, rfl, Or.inr rfl, rfl⟩
set_option maxRecDepth 100000 in
theorem lk15_52 : xAt kT15 52 (.iload 5) 54 := ⟨2, rfl, Or.inr rfl, rfl⟩
set_option maxRecDepth 100000 in
theorem lk15_54 : xAt kT15 54 (.iconst 1) 55 := ⟨1, rfl, Or.inr rfl, rfl⟩
set_option maxRecDepth 100000 in
theorem lk15_55 : xAt kT15 55 (.iadd) 56 := ⟨1, rfl, Or.inr rfl, rfl⟩
set_option maxRecDepth 100000 in
theorem lk15_56 : xAt kT15 56 (.iload_n 2) 57 := ⟨1, rfl, Or.inr rfl, rfl⟩
set_option maxRecDepth 100000 in
theorem lk15_57 : xAt kT15 57 (.iastore) 58 := ⟨1, rfl, Or.inr rfl, rfl⟩
set_option maxRecDepth 100000 in
theorem lk15_58 : xAt kT15 58 (.aload_n 0) 59 := ⟨1, rfl, Or.inr rfl, rfl⟩
set_option maxRecDepth 100000 in
theorem lk15_59 : xAt kT15 59 (.getfield 11) 62 := ⟨3, rfl, Or.inr rfl, rfl⟩
set_option maxRecDepth 100000 in
theorem lk15_62 : xAt kT15 62 (.iload 5) 64 := ⟨2, rfl, Or.inr rfl, rfl⟩
set_option maxRecDepth 100000 in
theorem lk15_64 : xAt kT15 64 (.iconst 2) 65 := ⟨1, rfl, Or.inr rfl, rfl⟩
set_option maxRecDepth 100000 in
theorem lk15_65 : xAt kT15 65 (.iadd) 66 := ⟨1, rfl, Or.inr rfl, rfl⟩
set_option maxRecDepth 100000 in
theorem lk15_66 : xAt kT15 66 (.aload_n 0) 67 := ⟨1, rfl, Or.inr rfl, rfl⟩
set_option maxRecDepth 100000 in
theorem lk15_67 : xAt kT15 67 (.getfield 29) 70 := ⟨3, rfl, Or.inr rfl, rfl⟩
set_option maxRecDepth 100000 in
theorem lk15_70 : xAt kT15 70 (.iastore) 71 := ⟨1, rfl, Or.inr rfl, rfl⟩
set_option maxRecDepth 100000 in
theorem lk15_71 : xAt kT15 71 (.aload_n 0) 72 := ⟨1, rfl, Or.inr rfl, rfl⟩
set_option maxRecDepth 100000 in
theorem lk15_72 : xAt kT15 72 (.getfield 11) 75 := ⟨3, rfl, Or.inr rfl, rfl⟩
set_option maxRecDepth 100000 in
theorem lk15_75 : xAt kT15 75 (.iload 5) 77 := ⟨2, rfl, Or.inr rfl, rfl⟩
set_option maxRecDepth 100000 in
theorem lk15_77 : xAt kT15 77 (.iconst 3) 78 := ⟨1, rfl, Or.inr rfl, rfl⟩
set_option maxRecDepth 100000 in
theorem lk15_78 : xAt kT15 78 (.iadd) 79 := ⟨1, rfl, Or.inr rfl, rfl⟩
set_option maxRecDepth 100000 in
theorem lk15_79 : xAt kT15 79 (.iconst (-1)) 80 := ⟨1, rfl, Or.inr rfl, rfl⟩
set_option maxRecDepth 100000 in
theorem lk15_80 : xAt kT15 80 (.iastore) 81 := ⟨1, rfl, Or.inr rfl, rfl⟩
set_option maxRecDepth 100000 in
theorem lk15_81 : xAt kT15 81 (.aload_n 0) 82 := ⟨1, rfl, Or.inr rfl, rfl⟩
set_option maxRecDepth 100000 in
theorem lk15_82 : xAt kT15 82 (.getfield 11) 85 := ⟨3, rfl, Or.inr rfl, rfl⟩
set_option maxRecDepth 100000 in
theorem lk15_85 : xAt kT15 85 (.iload 5) 87 := ⟨2, rfl, Or.inr rfl, rfl⟩
set_option maxRecDepth 100000 in
theorem lk15_87 : xAt kT15 87 (.iconst 4) 88 := ⟨1, rfl, Or.inr rfl, rfl⟩
set_option maxRecDepth 100000 in
theorem lk15_88 : xAt kT15 88 (.iadd) 89 := ⟨1, rfl, Or.inr rfl, rfl⟩
set_option maxRecDepth 100000 in
theorem lk15_89 : xAt kT15 89 (.iconst 0) 90 := ⟨1, rfl, Or.inr rfl, rfl⟩
set_option maxRecDepth 100000 in
theorem lk15_90 : xAt kT15 90 (.iastore) 91 := ⟨1, rfl, Or.inr rfl, rfl⟩
set_option maxRecDepth 100000 in
theorem lk15_91 : xAt kT15 91 (.aload_n 0) 92 := ⟨1, rfl, Or.inr rfl, rfl⟩
set_option maxRecDepth 100000 in
theorem lk15_92 : xAt kT15 92 (.getfield 11) 95 := ⟨3, rfl, Or.inr rfl, rfl⟩
set_option maxRecDepth 100000 in
theorem lk15_95 : xAt kT15 95 (.iload 5) 97 := ⟨2, rfl, Or.inr rfl, rfl⟩
set_option maxRecDepth 100000 in
theorem lk15_97 : xAt kT15 97 (.iconst 5) 98 := ⟨1, rfl, Or.inr rfl, rfl⟩
set_option maxRecDepth 100000 in
theorem lk15_98 : xAt kT15 98 (.iadd) 99 := ⟨1, rfl, Or.inr rfl, rfl⟩
set_option maxRecDepth 100000 in
theorem lk15_99 : xAt kT15 99 (.iconst (-1)) 100 := ⟨1, rfl, Or.inr rfl, rfl⟩
set_option maxRecDepth 100000 in
theorem lk15_100 : xAt kT15 100 (.iastore) 101 := ⟨1, rfl, Or.inr rfl, rfl⟩
set_option maxRecDepth 100000 in
theorem lk15_101 : xAt kT15 101 (.aload_n 0) 102 := ⟨1, rfl, Or.inr rfl, rfl⟩
set_option maxRecDepth 100000 in
theorem lk15_102 : xAt kT15 102 (.getfield 11) 105 := ⟨3, rfl, Or.inr rfl, rfl⟩
set_option maxRecDepth 100000 in
theorem lk15_105 : xAt kT15 105 (.iload 5) 107 := ⟨2, rfl, Or.inr rfl, rfl⟩
set_option maxRecDepth 100000 in
theorem lk15_107 : xAt kT15 107 (.bipush 6) 109 := ⟨2, rfl, Or.inr rfl, rfl⟩
set_option maxRecDepth 100000 in
theorem lk15_109 : xAt kT15 109 (.iadd) 110 := ⟨1, rfl, Or.inr rfl, rfl⟩
set_option maxRecDepth 100000 in
theorem lk15_110 : xAt kT15 110 (.aload_n 0) 111 := ⟨1, rfl, Or.inr rfl, rfl⟩
set_option maxRecDepth 100000 in
theorem lk15_111 : xAt kT15 111 (.getfield 32) 114 := ⟨3, rfl, Or.inr rfl, rfl⟩
set_option maxRecDepth 100000 in
theorem lk15_114 : xAt kT15 114 (.iastore) 115 := ⟨1, rfl, Or.inr rfl, rfl⟩
set_option maxRecDepth 100000 in
theorem lk15_115 : xAt kT15 115 (.aload_n 0) 116 := ⟨1, rfl, Or.inr rfl, rfl⟩
set_option maxRecDepth 100000 in
theorem lk15_116 : xAt kT15 116 (.getfield 11) 119 := ⟨3, rfl, Or.inr rfl, rfl⟩
set_option maxRecDepth 100000 in
theorem lk15_119 : xAt kT15 119 (.iload 5) 121 := ⟨2, rfl, Or.inr rfl, rfl⟩
set_option maxRecDepth 100000 in
theorem lk15_121 : xAt kT15 121 (.bipush 7) 123 := ⟨2, rfl, Or.inr rfl, rfl⟩
set_option maxRecDepth 100000 in
theorem lk15_123 : xAt kT15 123 (.iadd) 124 := ⟨1, rfl, Or.inr rfl, rfl⟩
set_option maxRecDepth 100000 in
theorem lk15_124 : xAt kT15 124 (.iload_n 3) 125 := ⟨1, rfl, Or.inr rfl, rfl⟩
set_option maxRecDepth 100000 in
theorem lk15_125 : xAt kT15 125 (.iastore) 126 := ⟨1, rfl, Or.inr rfl, rfl⟩
set_option maxRecDepth 100000 in
theorem lk15_126 : xAt kT15 126 (.aload_n 0) 127 := ⟨1, rfl, Or.inr rfl, rfl⟩
set_option maxRecDepth 100000 in
theorem lk15_127 : xAt kT15 127 (.getfield 11) 130 := ⟨3, rfl, Or.inr rfl, rfl⟩
set_option maxRecDepth 100000 in
theorem lk15_130 : xAt kT15 130 (.iload 5) 132 := ⟨2, rfl, Or.inr rfl, rfl⟩
set_option maxRecDepth 100000 in
theorem lk15_132 : xAt kT15 132 (.bipush 8) 134 := ⟨2, rfl, Or.inr rfl, rfl⟩
set_option maxRecDepth 100000 in
theorem lk15_134 : xAt kT15 134 (.iadd) 135 := ⟨1, rfl, Or.inr rfl, rfl⟩
set_option maxRecDepth 100000 in
theorem lk15_135 : xAt kT15 135 (.iload 4) 137 := ⟨2, rfl, Or.inr rfl, rfl⟩
set_option maxRecDepth 100000 in
theorem lk15_137 : xAt kT15 137 (.iastore) 138 := ⟨1, rfl, Or.inr rfl, rfl⟩
set_option maxRecDepth 100000 in
theorem lk15_138 : xAt kT15 138 (.aload_n 0) 139 := ⟨1, rfl, Or.inr rfl, rfl⟩
set_option maxRecDepth 100000 in
theorem lk15_139 : xAt kT15 139 (.getfield 11) 142 := ⟨3, rfl, Or.inr rfl, rfl⟩
set_option maxRecDepth 100000 in
theorem lk15_142 : xAt kT15 142 (.iload 5) 144 := ⟨2, rfl, Or.inr rfl, rfl⟩
set_option maxRecDepth 100000 in
theorem lk15_144 : xAt kT15 144 (.bipush 9) 146 := ⟨2, rfl, Or.inr rfl, rfl⟩
set_option maxRecDepth 100000 in
theorem lk15_146 : xAt kT15 146 (.iadd) 147 := ⟨1, rfl, Or.inr rfl, rfl⟩
set_option maxRecDepth 100000 in
theorem lk15_147 : xAt kT15 147 (.iconst 0) 148 := ⟨1, rfl, Or.inr rfl, rfl⟩
set_option maxRecDepth 100000 in
theorem lk15_148 : xAt kT15 148 (.iastore) 149 := ⟨1, rfl, Or.inr rfl, rfl⟩
set_option maxRecDepth 100000 in
theorem lk15_149 : xAt kT15 149 (.aload_n 0) 150 := ⟨1, rfl, Or.inr rfl, rfl⟩
set_option maxRecDepth 100000 in
theorem lk15_150 : xAt kT15 150 (.dup) 151 := ⟨1, rfl, Or.inr rfl, rfl⟩
set_option maxRecDepth 100000 in
theorem lk15_151 : xAt kT15 151 (.getfield 29) 154 := ⟨3, rfl, Or.inr rfl, rfl⟩
set_option maxRecDepth 100000 in
theorem lk15_154 : xAt kT15 154 (.iconst 1) 155 := ⟨1, rfl, Or.inr rfl, rfl⟩
set_option maxRecDepth 100000 in
theorem lk15_155 : xAt kT15 155 (.iadd) 156 := ⟨1, rfl, Or.inr rfl, rfl⟩
set_option maxRecDepth 100000 in
theorem lk15_156 : xAt kT15 156 (.putfield 29) 159 := ⟨3, rfl, Or.inr rfl, rfl⟩
set_option maxRecDepth 100000 in
theorem lk15_159 : xAt kT15 159 (.aload_n 0) 160 := ⟨1, rfl, Or.inr rfl, rfl⟩
set_option maxRecDepth 100000 in
theorem lk15_160 : xAt kT15 160 (.dup) 161 := ⟨1, rfl, Or.inr rfl, rfl⟩
set_option maxRecDepth 100000 in
theorem lk15_161 : xAt kT15 161 (.getfield 19) 164 := ⟨3, rfl, Or.inr rfl, rfl⟩
set_option maxRecDepth 100000 in
theorem lk15_164 : xAt kT15 164 (.iconst 1) 165 := ⟨1, rfl, Or.inr rfl, rfl⟩
set_option maxRecDepth 100000 in
theorem lk15_165 : xAt kT15 165 (.iadd) 166 := ⟨1, rfl, Or.inr rfl, rfl⟩
set_option maxRecDepth 100000 in
theorem lk15_166 : xAt kT15 166 (.putfield 19) 169 := ⟨3, rfl, Or.inr rfl, rfl⟩
set_option maxRecDepth 100000 in
theorem lk15_169 : xAt kT15 169 (.aload_n 0) 170 := ⟨1, rfl, Or.inr rfl, rfl⟩
set_option maxRecDepth 100000 in
theorem lk15_170 : xAt kT15 170 (.getfield 19) 173 := ⟨3, rfl, Or.inr rfl, rfl⟩
set_option maxRecDepth 100000 in
theorem lk15_173 : xAt kT15 173 (.iconst 1) 174 := ⟨1, rfl, Or.inr rfl, rfl⟩
set_option maxRecDepth 100000 in
theorem lk15_174 : xAt kT15 174 (.isub) 175 := ⟨1, rfl, Or.inr rfl, rfl⟩
set_option maxRecDepth 100000 in
theorem lk15_175 : xAt kT15 175 (.ireturn) 176 := ⟨1, rfl, Or.inr rfl, rfl⟩
set_option maxRecDepth 100000 in
theorem lk18_0 : xAt kT18 0 (.iload_n 1) 1 := ⟨1, rfl, Or.inr rfl, rfl⟩
set_option maxRecDepth 100000 in
theorem lk18_1 : xAt kT18 1 (.bipush 10) 3 := ⟨2, rfl, Or.inr rfl, rfl⟩
set_option maxRecDepth 100000 in
theorem lk18_3 : xAt kT18 3 (.imul) 4 := ⟨1, rfl, Or.inr rfl, rfl⟩
set_option maxRecDepth 100000 in
theorem lk18_4 : xAt kT18 4 (.istore 4) 6 := ⟨2, rfl, Or.inr rfl, rfl⟩
set_option maxRecDepth 100000 in
theorem lk18_6 : xAt kT18 6 (.aload_n 0) 7 := ⟨1, rfl, Or.inr rfl, rfl⟩
set_option maxRecDepth 100000 in
theorem lk18_7 : xAt kT18 7 (.getfield 11) 10 := ⟨3, rfl, Or.inr rfl, rfl⟩
set_option maxRecDepth 100000 in
theorem lk18_10 : xAt kT18 10 (.iload 4) 12 := ⟨2, rfl, Or.inr rfl, rfl⟩
set_option maxRecDepth 100000 in
theorem lk18_12 : xAt kT18 12 (.iconst 3) 13 := ⟨1, rfl, Or.inr rfl, rfl⟩
set_option maxRecDepth 100000 in
theorem lk18_13 : xAt kT18 13 (.iadd) 14 := ⟨1, rfl, Or.inr rfl, rfl⟩
set_option maxRecDepth 100000 in
theorem lk18_14 : xAt kT18 14 (.aload_n 0) 15 := ⟨1, rfl, Or.inr rfl, rfl⟩
set_option maxRecDepth 100000 in
theorem lk18_15 : xAt kT18 15 (.getfield 29) 18 := ⟨3, rfl, Or.inr rfl, rfl⟩
set_option maxRecDepth 100000 in
theorem lk18_18 : xAt kT18 18 (.iastore) 19 := ⟨1, rfl, Or.inr rfl, rfl⟩
set_option maxRecDepth 100000 in
theorem lk18_19 : xAt kT18 19 (.aload_n 0) 20 := ⟨1, rfl, Or.inr rfl, rfl⟩
set_option maxRecDepth 100000 in
theorem lk18_20 : xAt kT18 20 (.getfield 11) 23 := ⟨3, rfl, Or.inr rfl, rfl⟩
set_option maxRecDepth 100000 in
theorem lk18_23 : xAt kT18 23 (.iload 4) 25 := ⟨2, rfl, Or.inr rfl, rfl⟩
set_option maxRecDepth 100000 in
theorem lk18_25 : xAt kT18 25 (.iconst 4) 26 := ⟨1, rfl, Or.inr rfl, rfl⟩
set_option maxRecDepth 100000 in
theorem lk18_26 : xAt kT18 26 (.iadd) 27 := ⟨1, rfl, Or.inr rfl, rfl⟩
set_option maxRecDepth 100000 in
theorem lk18_27 : xAt kT18 27 (.iload_n 2) 28 := ⟨1, rfl, Or.inr rfl, rfl⟩
set_option maxRecDepth 100000 in
theorem lk18_28 : xAt kT18 28 (.iastore) 29 := ⟨1, rfl, Or.inr rfl, rfl⟩
set_option maxRecDepth 100000 in
theorem lk18_29 : xAt kT18 29 (.aload_n 0) 30 := ⟨1, rfl, Or.inr rfl, rfl⟩
set_option maxRecDepth 100000 in
theorem lk18_30 : xAt kT18 30 (.getfield 11) 33 := ⟨3, rfl, Or.inr rfl, rfl⟩
set_option maxRecDepth 100000 in
theorem lk18_33 : xAt kT18 33 (.iload 4) 35 := ⟨2, rfl, Or.inr rfl, rfl⟩
set_option maxRecDepth 100000 in
theorem lk18_35 : xAt kT18 35 (.iconst 5) 36 := ⟨1, rfl, Or.inr rfl, rfl⟩
set_option maxRecDepth 100000 in
theorem lk18_36 : xAt kT18 36 (.iadd) 37 := ⟨1, rfl, Or.inr rfl, rfl⟩
set_option maxRecDepth 100000 in
theorem lk18_37 : xAt kT18 37 (.iload_n 3) 38 := ⟨1, rfl, Or.inr rfl, rfl⟩
set_option maxRecDepth 100000 in
theorem lk18_38 : xAt kT18 38 (.iastore) 39 := ⟨1, rfl, Or.inr rfl, rfl⟩
set_option maxRecDepth 100000 in
theorem lk18_39 : xAt kT18 39 (.aload_n 0) 40 := ⟨1, rfl, Or.inr rfl, rfl⟩
set_option maxRecDepth 100000 in
theorem lk18_40 : xAt kT18 40 (.dup) 41 := ⟨1, rfl, Or.inr rfl, rfl⟩
set_option maxRecDepth 100000 in
theorem lk18_41 : xAt kT18 41 (.getfield 29) 44 := ⟨3, rfl, Or.inr rfl, rfl⟩
set_option maxRecDepth 100000 in
theorem lk18_44 : xAt kT18 44 (.iconst 1) 45 := ⟨1, rfl, Or.inr rfl, rfl⟩
set_option maxRecDepth 100000 in
theorem lk18_45 : xAt kT18 45 (.iadd) 46 := ⟨1, rfl, Or.inr rfl, rfl⟩
set_option maxRecDepth 100000 in
theorem lk18_46 : xAt kT18 46 (.putfield 29) 49 := ⟨3, rfl, Or.inr rfl, rfl⟩
set_option maxRecDepth 100000 in
theorem lk18_49 : xAt kT18 49 (.return_) 50 := ⟨1, rfl, Or.inr rfl, rfl⟩
set_option maxRecDepth 100000 in
theorem lk19_0 : xAt kT19 0 (.iload_n 1) 1 := ⟨1, rfl, Or.inr rfl, rfl⟩
set_option maxRecDepth 100000 in
theorem lk19_1 : xAt kT19 1 (.ifCond .lt 11) 4 := ⟨3, rfl, Or.inr rfl, rfl⟩
set_option maxRecDepth 100000 in
theorem lk19_4 : xAt kT19 4 (.iload_n 1) 5 := ⟨1, rfl, Or.inr rfl, rfl⟩
set_option maxRecDepth 100000 in
theorem lk19_5 : xAt kT19 5 (.aload_n 0) 6 := ⟨1, rfl, Or.inr rfl, rfl⟩
set_option maxRecDepth 100000 in
theorem lk19_6 : xAt kT19 6 (.getfield 19) 9 := ⟨3, rfl, Or.inr rfl, rfl⟩
set_option maxRecDepth 100000 in
theorem lk19_9 : xAt kT19 9 (.if_icmp .lt 7) 12 := ⟨3, rfl, Or.inr rfl, rfl⟩
set_option maxRecDepth 100000 in
theorem lk19_12 : xAt kT19 12 (.iconst 0) 13 := ⟨1, rfl, Or.inr rfl, rfl⟩
set_option maxRecDepth 100000 in
theorem lk19_13 : xAt kT19 13 (.goto 14) 16 := ⟨3, rfl, Or.inr rfl, rfl⟩
set_option maxRecDepth 100000 in
theorem lk19_16 : xAt kT19 16 (.aload_n 0) 17 := ⟨1, rfl, Or.inr rfl, rfl⟩
set_option maxRecDepth 100000 in
theorem lk19_17 : xAt kT19 17 (.getfield 11) 20 := ⟨3, rfl, Or.inr rfl, rfl⟩
set_option maxRecDepth 100000 in
theorem lk19_20 : xAt kT19 20 (.iload_n 1) 21 := ⟨1, rfl, Or.inr rfl, rfl⟩
set_option maxRecDepth 100000 in
theorem lk19_21 : xAt kT19 21 (.bipush 10) 23 := ⟨2, rfl, Or.inr rfl, rfl⟩
set_option maxRecDepth 100000 in
theorem lk19_23 : xAt kT19 23 (.imul) 24 := ⟨1, rfl, Or.inr rfl, rfl⟩
set_option maxRecDepth 100000 in
theorem lk19_24 : xAt kT19 24 (.iload_n 2) 25 := ⟨1, rfl, Or.inr rfl, rfl⟩
set_option maxRecDepth 100000 in
theorem lk19_25 : xAt kT19 25 (.iadd) 26 := ⟨1, rfl, Or.inr rfl, rfl⟩
set_option maxRecDepth 100000 in
theorem lk19_26 : xAt kT19 26 (.iaload) 27 := ⟨1, rfl, Or.inr rfl, rfl⟩
set_option maxRecDepth 100000 in
theorem lk19_27 : xAt kT19 27 (.ireturn) 28 := ⟨1, rfl, Or.inr rfl, rfl⟩
set_option maxRecDepth 100000 in
theorem lk194_0 : xAt kT194 0 (.aload_n 0) 1 := ⟨1, rfl, Or.inr rfl, rfl⟩
set_option maxRecDepth 100000 in
theorem lk194_1 : xAt kT194 1 (.getfield 9) 4 := ⟨3, rfl, Or.inr rfl, rfl⟩
set_option maxRecDepth 100000 in
theorem lk194_4 : xAt kT194 4 (.iload_n 1) 5 := ⟨1, rfl, Or.inr rfl, rfl⟩
set_option maxRecDepth 100000 in
theorem lk194_5 : xAt kT194 5 (.iconst (-1)) 6 := ⟨1, rfl, Or.inr rfl, rfl⟩
set_option maxRecDepth 100000 in
theorem lk194_6 : xAt kT194 6 (.iastore) 7 := ⟨1, rfl, Or.inr rfl, rfl⟩
set_option maxRecDepth 100000 in
theorem lk194_7 : xAt kT194 7 (.return_) 8 := ⟨1, rfl, Or.inr rfl, rfl⟩
set_option maxRecDepth 100000 in
theorem lk20_0 : xAt kT20 0 (.aload_n 0) 1 := ⟨1, rfl, Or.inr rfl, rfl⟩
set_option maxRecDepth 100000 in
theorem lk20_1 : xAt kT20 1 (.iconst 0) 2 := ⟨1, rfl, Or.inr rfl, rfl⟩
set_option maxRecDepth 100000 in
theorem lk20_2 : xAt kT20 2 (.putfield 33) 5 := ⟨3, rfl, Or.inr rfl, rfl⟩
set_option maxRecDepth 100000 in
theorem lk20_5 : xAt kT20 5 (.aload_n 0) 6 := ⟨1, rfl, Or.inr rfl, rfl⟩
set_option maxRecDepth 100000 in
theorem lk20_6 : xAt kT20 6 (.iconst 0) 7 := ⟨1, rfl, Or.inr rfl, rfl⟩
set_option maxRecDepth 100000 in
theorem lk20_7 : xAt kT20 7 (.putfield 44) 10 := ⟨3, rfl, Or.inr rfl, rfl⟩
set_option maxRecDepth 100000 in
theorem lk20_10 : xAt kT20 10 (.aload_n 0) 11 := ⟨1, rfl, Or.inr rfl, rfl⟩
set_option maxRecDepth 100000 in
theorem lk20_11 : xAt kT20 11 (.iconst 0) 12 := ⟨1, rfl, Or.inr rfl, rfl⟩
set_option maxRecDepth 100000 in
theorem lk20_12 : xAt kT20 12 (.putfield 115) 15 := ⟨3, rfl, Or.inr rfl, rfl⟩
set_option maxRecDepth 100000 in
theorem lk20_15 : xAt kT20 15 (.aload_n 0) 16 := ⟨1, rfl, Or.inr rfl, rfl⟩
set_option maxRecDepth 100000 in
theorem lk20_16 : xAt kT20 16 (.getfield 25) 19 := ⟨3, rfl, Or.inr rfl, rfl⟩
set_option maxRecDepth 100000 in
theorem lk20_19 : xAt kT20 19 (.aload_n 0) 20 := ⟨1, rfl, Or.inr rfl, rfl⟩
set_option maxRecDepth 100000 in
theorem lk20_20 : xAt kT20 20 (.getfield 22) 23 := ⟨3, rfl, Or.inr rfl, rfl⟩
set_option maxRecDepth 100000 in
theorem lk20_23 : xAt kT20 23 (.invokevirtual 151) 26 := ⟨3, rfl, Or.inr rfl, rfl⟩
set_option maxRecDepth 100000 in
theorem lk20_26 : xAt kT20 26 (.aload_n 0) 27 := ⟨1, rfl, Or.inr rfl, rfl⟩
set_option maxRecDepth 100000 in
theorem lk20_27 : xAt kT20 27 (.getfield 29) 30 := ⟨3, rfl, Or.inr rfl, rfl⟩
set_option maxRecDepth 100000 in
theorem lk20_30 : xAt kT20 30 (.aload_n 0) 31 := ⟨1, rfl, Or.inr rfl, rfl⟩
set_option maxRecDepth 100000 in
theorem lk20_31 : xAt kT20 31 (.getfield 15) 34 := ⟨3, rfl, Or.inr rfl, rfl⟩
set_option maxRecDepth 100000 in
theorem lk20_34 : xAt kT20 34 (.iload_n 1) 35 := ⟨1, rfl, Or.inr rfl, rfl⟩
set_option maxRecDepth 100000 in
theorem lk20_35 : xAt kT20 35 (.iload_n 2) 36 := ⟨1, rfl, Or.inr rfl, rfl⟩
set_option maxRecDepth 100000 in
theorem lk20_36 : xAt kT20 36 (.invokevirtual 154) 39 := ⟨3, rfl, Or.inr rfl, rfl⟩
set_option maxRecDepth 100000 in
theorem lk20_39 : xAt kT20 39 (.return_) 40 := ⟨1, rfl, Or.inr rfl, rfl⟩
set_option maxRecDepth 100000 in
theorem lk27_0 : xAt kT27 0 (.aload_n 0) 1 := ⟨1, rfl, Or.inr rfl, rfl⟩
set_option maxRecDepth 100000 in
theorem lk27_1 : xAt kT27 1 (.getfield 29) 4 := ⟨3, rfl, Or.inr rfl, rfl⟩
set_option maxRecDepth 100000 in
theorem lk27_4 : xAt kT27 4 (.aload_n 0) 5 := ⟨1, rfl, Or.inr rfl, rfl⟩
set_option maxRecDepth 100000 in
theorem lk27_5 : xAt kT27 5 (.getfield 15) 8 := ⟨3, rfl, Or.inr rfl, rfl⟩
set_option maxRecDepth 100000 in
theorem lk27_8 : xAt kT27 8 (.iconst 1) 9 := ⟨1, rfl, Or.inr rfl, rfl⟩
set_option maxRecDepth 100000 in
theorem lk27_9 : xAt kT27 9 (.invokevirtual 58) 12 := ⟨3, rfl, Or.inr rfl, rfl⟩
set_option maxRecDepth 100000 in
theorem lk27_12 : xAt kT27 12 (.iconst 2) 13 := ⟨1, rfl, Or.inr rfl, rfl⟩
set_option maxRecDepth 100000 in
theorem lk27_13 : xAt kT27 13 (.if_icmp .gt 7) 16 := ⟨3, rfl, Or.inr rfl, rfl⟩
set_option maxRecDepth 100000 in
theorem lk27_16 : xAt kT27 16 (.iconst 1) 17 := ⟨1, rfl, Or.inr rfl, rfl⟩
set_option maxRecDepth 100000 in
theorem lk27_17 : xAt kT27 17 (.goto 4) 20 := ⟨3, rfl, Or.inr rfl, rfl⟩
set_option maxRecDepth 100000 in
theorem lk27_20 : xAt kT27 20 (.iconst 0) 21 := ⟨1, rfl, Or.inr rfl, rfl⟩
set_option maxRecDepth 100000 in
theorem lk27_21 : xAt kT27 21 (.ireturn) 22 := ⟨1, rfl, Or.inr rfl, rfl⟩
set_option maxRecDepth 100000 in
theorem lk22_0 : xAt kT22 0 (.aload_n 0) 1 := ⟨1, rfl, Or.inr rfl, rfl⟩
set_option maxRecDepth 100000 in
theorem lk22_1 : xAt kT22 1 (.invokevirtual 40) 4 := ⟨3, rfl, Or.inr rfl, rfl⟩
set_option maxRecDepth 100000 in
theorem lk22_4 : xAt kT22 4 (.ifCond .eq 17) 7 := ⟨3, rfl, Or.inr rfl, rfl⟩
set_option maxRecDepth 100000 in
theorem lk22_7 : xAt kT22 7 (.aload_n 0) 8 := ⟨1, rfl, Or.inr rfl, rfl⟩
set_option maxRecDepth 100000 in
theorem lk22_8 : xAt kT22 8 (.iconst (-1)) 9 := ⟨1, rfl, Or.inr rfl, rfl⟩
set_option maxRecDepth 100000 in
theorem lk22_9 : xAt kT22 9 (.putfield 9) 12 := ⟨3, rfl, Or.inr rfl, rfl⟩
set_option maxRecDepth 100000 in
theorem lk22_12 : xAt kT22 12 (.aload_n 0) 13 := ⟨1, rfl, Or.inr rfl, rfl⟩
set_option maxRecDepth 100000 in
theorem lk22_13 : xAt kT22 13 (.iconst 2) 14 := ⟨1, rfl, Or.inr rfl, rfl⟩
set_option maxRecDepth 100000 in
theorem lk22_14 : xAt kT22 14 (.iconst (-1)) 15 := ⟨1, rfl, Or.inr rfl, rfl⟩
set_option maxRecDepth 100000 in
theorem lk22_15 : xAt kT22 15 (.invokevirtual 148) 18 := ⟨3, rfl, Or.inr rfl, rfl⟩
set_option maxRecDepth 100000 in
theorem lk22_18 : xAt kT22 18 (.goto 9) 21 := ⟨3, rfl, Or.inr rfl, rfl⟩
set_option maxRecDepth 100000 in
theorem lk22_21 : xAt kT22 21 (.aload_n 0) 22 := ⟨1, rfl, Or.inr rfl, rfl⟩
set_option maxRecDepth 100000 in
theorem lk22_22 : xAt kT22 22 (.iconst 3) 23 := ⟨1, rfl, Or.inr rfl, rfl⟩
set_option maxRecDepth 100000 in
theorem lk22_23 : xAt kT22 23 (.iconst (-1)) 24 := ⟨1, rfl, Or.inr rfl, rfl⟩
set_option maxRecDepth 100000 in
theorem lk22_24 : xAt kT22 24 (.invokevirtual 148) 27 := ⟨3, rfl, Or.inr rfl, rfl⟩
set_option maxRecDepth 100000 in
theorem lk22_27 : xAt kT22 27 (.return_) 28 := ⟨1, rfl, Or.inr rfl, rfl⟩
set_option maxRecDepth 100000 in
theorem lk185_0 : xAt kT185 0 (.aload_n 0) 1 := ⟨1, rfl, Or.inr rfl, rfl⟩
set_option maxRecDepth 100000 in
theorem lk185_1 : xAt kT185 1 (.getfield 35) 4 := ⟨3, rfl, Or.inr rfl, rfl⟩
set_option maxRecDepth 100000 in
theorem lk185_4 : xAt kT185 4 (.invokevirtual 48) 7 := ⟨3, rfl, Or.inr rfl, rfl⟩
set_option maxRecDepth 100000 in
theorem lk185_7 : xAt kT185 7 (.ifCond .eq 13) 10 := ⟨3, rfl, Or.inr rfl, rfl⟩
set_option maxRecDepth 100000 in
theorem lk185_10 : xAt kT185 10 (.new 52) 13 := ⟨3, rfl, Or.inr rfl, rfl⟩
set_option maxRecDepth 100000 in
theorem lk185_13 : xAt kT185 13 (.dup) 14 := ⟨1, rfl, Or.inr rfl, rfl⟩
set_option maxRecDepth 100000 in
theorem lk185_14 : xAt kT185 14 (.invokespecial 54) 17 := ⟨3, rfl, Or.inr rfl, rfl⟩
set_option maxRecDepth 100000 in
theorem lk185_17 : xAt kT185 17 (.goto 22) 20 := ⟨3, rfl, Or.inr rfl, rfl⟩
set_option maxRecDepth 100000 in
theorem lk185_20 : xAt kT185 20 (.aload_n 0) 21 := ⟨1, rfl, Or.inr rfl, rfl⟩
set_option maxRecDepth 100000 in
theorem lk185_21 : xAt kT185 21 (.getfield 35) 24 := ⟨3, rfl, Or.inr rfl, rfl⟩
set_option maxRecDepth 100000 in
theorem lk185_24 : xAt kT185 24 (.aload_n 0) 25 := ⟨1, rfl, Or.inr rfl, rfl⟩
set_option maxRecDepth 100000 in
theorem lk185_25 : xAt kT185 25 (.getfield 35) 28 := ⟨3, rfl, Or.inr rfl, rfl⟩
set_option maxRecDepth 100000 in
theorem lk185_28 : xAt kT185 28 (.invokevirtual 55) 31 := ⟨3, rfl, Or.inr rfl, rfl⟩
set_option maxRecDepth 100000 in
theorem lk185_31 : xAt kT185 31 (.iconst 1) 32 := ⟨1, rfl, Or.inr rfl, rfl⟩
set_option maxRecDepth 100000 in
theorem lk185_32 : xAt kT185 32 (.isub) 33 := ⟨1, rfl, Or.inr rfl, rfl⟩
set_option maxRecDepth 100000 in
theorem lk185_33 : xAt kT185 33 (.invokevirtual 59) 36 := ⟨3, rfl, Or.inr rfl, rfl⟩
set_option maxRecDepth 100000 in
theorem lk185_36 : xAt kT185 36 (.checkcast 52) 39 := ⟨3, rfl, Or.inr rfl, rfl⟩
set_option maxRecDepth 100000 in
theorem lk185_39 : xAt kT185 39 (.areturn) 40 := ⟨1, rfl, Or.inr rfl, rfl⟩
set_option maxRecDepth 100000 in
theorem lk184_0 : xAt kT184 0 (.aload_n 0) 1 := ⟨1, rfl, Or.inr rfl, rfl⟩
set_option maxRecDepth 100000 in
theorem lk184_1 : xAt kT184 1 (.getfield 44) 4 := ⟨3, rfl, Or.inr rfl, rfl⟩
set_option maxRecDepth 100000 in
theorem lk184_4 : xAt kT184 4 (.iload_n 1) 5 := ⟨1, rfl, Or.inr rfl, rfl⟩
set_option maxRecDepth 100000 in
theorem lk184_5 : xAt kT184 5 (.ishr) 6 := ⟨1, rfl, Or.inr rfl, rfl⟩
set_option maxRecDepth 100000 in
theorem lk184_6 : xAt kT184 6 (.aload_n 0) 7 := ⟨1, rfl, Or.inr rfl, rfl⟩
set_option maxRecDepth 100000 in
theorem lk184_7 : xAt kT184 7 (.getfield 44) 10 := ⟨3, rfl, Or.inr rfl, rfl⟩
set_option maxRecDepth 100000 in
theorem lk184_10 : xAt kT184 10 (.iload_n 2) 11 := ⟨1, rfl, Or.inr rfl, rfl⟩
set_option maxRecDepth 100000 in
theorem lk184_11 : xAt kT184 11 (.ishr) 12 := ⟨1, rfl, Or.inr rfl, rfl⟩
set_option maxRecDepth 100000 in
theorem lk184_12 : xAt kT184 12 (.ixor) 13 := ⟨1, rfl, Or.inr rfl, rfl⟩
set_option maxRecDepth 100000 in
theorem lk184_13 : xAt kT184 13 (.iconst 1) 14 := ⟨1, rfl, Or.inr rfl, rfl⟩
set_option maxRecDepth 100000 in
theorem lk184_14 : xAt kT184 14 (.iand) 15 := ⟨1, rfl, Or.inr rfl, rfl⟩
set_option maxRecDepth 100000 in
theorem lk184_15 : xAt kT184 15 (.ifCond .eq 7) 18 := ⟨3, rfl, Or.inr rfl, rfl⟩
set_option maxRecDepth 100000 in
theorem lk184_18 : xAt kT184 18 (.iconst 1) 19 := ⟨1, rfl, Or.inr rfl, rfl⟩
set_option maxRecDepth 100000 in
theorem lk184_19 : xAt kT184 19 (.goto 4) 22 := ⟨3, rfl, Or.inr rfl, rfl⟩
set_option maxRecDepth 100000 in
theorem lk184_22 : xAt kT184 22 (.iconst 0) 23 := ⟨1, rfl, Or.inr rfl, rfl⟩
set_option maxRecDepth 100000 in
theorem lk184_23 : xAt kT184 23 (.ireturn) 24 := ⟨1, rfl, Or.inr rfl, rfl⟩
set_option maxRecDepth 100000 in
theorem lk198_0 : xAt kT198 0 (.aload_n 0) 1 := ⟨1, rfl, Or.inr rfl, rfl⟩
set_option maxRecDepth 100000 in
theorem lk198_1 : xAt kT198 1 (.dup) 2 := ⟨1, rfl, Or.inr rfl, rfl⟩
set_option maxRecDepth 100000 in
theorem lk198_2 : xAt kT198 2 (.getfield 108) 5 := ⟨3, rfl, Or.inr rfl, rfl⟩
set_option maxRecDepth 100000 in
theorem lk198_5 : xAt kT198 5 (.iconst 1) 6 := ⟨1, rfl, Or.inr rfl, rfl⟩
set_option maxRecDepth 100000 in
theorem lk198_6 : xAt kT198 6 (.iadd) 7 := ⟨1, rfl, Or.inr rfl, rfl⟩
set_option maxRecDepth 100000 in
theorem lk198_7 : xAt kT198 7 (.putfield 108) 10 := ⟨3, rfl, Or.inr rfl, rfl⟩
set_option maxRecDepth 100000 in
theorem lk198_10 : xAt kT198 10 (.aload_n 0) 11 := ⟨1, rfl, Or.inr rfl, rfl⟩
set_option maxRecDepth 100000 in
theorem lk198_11 : xAt kT198 11 (.getfield 35) 14 := ⟨3, rfl, Or.inr rfl, rfl⟩
set_option maxRecDepth 100000 in
theorem lk198_14 : xAt kT198 14 (.aload_n 1) 15 := ⟨1, rfl, Or.inr rfl, rfl⟩
set_option maxRecDepth 100000 in
theorem lk198_15 : xAt kT198 15 (.invokevirtual 111) 18 := ⟨3, rfl, Or.inr rfl, rfl⟩
set_option maxRecDepth 100000 in
theorem lk198_18 : xAt kT198 18 (.pop) 19 := ⟨1, rfl, Or.inr rfl, rfl⟩
set_option maxRecDepth 100000 in
theorem lk198_19 : xAt kT198 19 (.return_) 20 := ⟨1, rfl, Or.inr rfl, rfl⟩
set_option maxRecDepth 100000 in
theorem lk197_0 : xAt kT197 0 (.aload_n 0) 1 := ⟨1, rfl, Or.inr rfl, rfl⟩
set_option maxRecDepth 100000 in
theorem lk197_1 : xAt kT197 1 (.getfield 31) 4 := ⟨3, rfl, Or.inr rfl, rfl⟩
set_option maxRecDepth 100000 in
theorem lk197_4 : xAt kT197 4 (.invokevirtual 55) 7 := ⟨3, rfl, Or.inr rfl, rfl⟩
set_option maxRecDepth 100000 in
theorem lk197_7 : xAt kT197 7 (.sipush 128) 10 := ⟨3, rfl, Or.inr rfl, rfl⟩
set_option maxRecDepth 100000 in
theorem lk197_10 : xAt kT197 10 (.if_icmp .lt 23) 13 := ⟨3, rfl, Or.inr rfl, rfl⟩
set_option maxRecDepth 100000 in
theorem lk197_13 : xAt kT197 13 (.aload_n 0) 14 := ⟨1, rfl, Or.inr rfl, rfl⟩
set_option maxRecDepth 100000 in
theorem lk197_14 : xAt kT197 14 (.dup) 15 := ⟨1, rfl, Or.inr rfl, rfl⟩
set_option maxRecDepth 100000 in
theorem lk197_15 : xAt kT197 15 (.getfield 108) 18 := ⟨3, rfl, Or.inr rfl, rfl⟩
set_option maxRecDepth 100000 in
theorem lk197_18 : xAt kT197 18 (.iconst 1) 19 := ⟨1, rfl, Or.inr rfl, rfl⟩
set_option maxRecDepth 100000 in
theorem lk197_19 : xAt kT197 19 (.iadd) 20 := ⟨1, rfl, Or.inr rfl, rfl⟩
set_option maxRecDepth 100000 in
theorem lk197_20 : xAt kT197 20 (.putfield 108) 23 := ⟨3, rfl, Or.inr rfl, rfl⟩
set_option maxRecDepth 100000 in
theorem lk197_23 : xAt kT197 23 (.aload_n 0) 24 := ⟨1, rfl, Or.inr rfl, rfl⟩
set_option maxRecDepth 100000 in
theorem lk197_24 : xAt kT197 24 (.getfield 35) 27 := ⟨3, rfl, Or.inr rfl, rfl⟩
set_option maxRecDepth 100000 in
theorem lk197_27 : xAt kT197 27 (.aload_n 1) 28 := ⟨1, rfl, Or.inr rfl, rfl⟩
set_option maxRecDepth 100000 in
theorem lk197_28 : xAt kT197 28 (.invokevirtual 111) 31 := ⟨3, rfl, Or.inr rfl, rfl⟩
set_option maxRecDepth 100000 in
theorem lk197_31 : xAt kT197 31 (.pop) 32 := ⟨1, rfl, Or.inr rfl, rfl⟩
set_option maxRecDepth 100000 in
theorem lk197_32 : xAt kT197 32 (.return_) 33 := ⟨1, rfl, Or.inr rfl, rfl⟩
set_option maxRecDepth 100000 in
theorem lk197_33 : xAt kT197 33 (.aload_n 1) 34 := ⟨1, rfl, Or.inr rfl, rfl⟩
set_option maxRecDepth 100000 in
theorem lk197_34 : xAt kT197 34 (.iload_n 2) 35 := ⟨1, rfl, Or.inr rfl, rfl⟩
set_option maxRecDepth 100000 in
theorem lk197_35 : xAt kT197 35 (.putfield 115) 38 := ⟨3, rfl, Or.inr rfl, rfl⟩
set_option maxRecDepth 100000 in
theorem lk197_38 : xAt kT197 38 (.aload_n 1) 39 := ⟨1, rfl, Or.inr rfl, rfl⟩
set_option maxRecDepth 100000 in
theorem lk197_39 : xAt kT197 39 (.aload_n 0) 40 := ⟨1, rfl, Or.inr rfl, rfl⟩
set_option maxRecDepth 100000 in
theorem lk197_40 : xAt kT197 40 (.getfield 118) 43 := ⟨3, rfl, Or.inr rfl, rfl⟩
set_option maxRecDepth 100000 in
theorem lk197_43 : xAt kT197 43 (.putfield 121) 46 := ⟨3, rfl, Or.inr rfl, rfl⟩
set_option maxRecDepth 100000 in
theorem lk197_46 : xAt kT197 46 (.aload_n 0) 47 := ⟨1, rfl, Or.inr rfl, rfl⟩
set_option maxRecDepth 100000 in
theorem lk197_47 : xAt kT197 47 (.dup) 48 := ⟨1, rfl, Or.inr rfl, rfl⟩
set_option maxRecDepth 100000 in
theorem lk197_48 : xAt kT197 48 (.getfield 118) 51 := ⟨3, rfl, Or.inr rfl, rfl⟩
set_option maxRecDepth 100000 in
theorem lk197_51 : xAt kT197 51 (.iconst 1) 52 := ⟨1, rfl, Or.inr rfl, rfl⟩
set_option maxRecDepth 100000 in
theorem lk197_52 : xAt kT197 52 (.iadd) 53 := ⟨1, rfl, Or.inr rfl, rfl⟩
set_option maxRecDepth 100000 in
theorem lk197_53 : xAt kT197 53 (.putfield 118) 56 := ⟨3, rfl, Or.inr rfl, rfl⟩
set_option maxRecDepth 100000 in
theorem lk197_56 : xAt kT197 56 (.aload_n 0) 57 := ⟨1, rfl, Or.inr rfl, rfl⟩
set_option maxRecDepth 100000 in
theorem lk197_57 : xAt kT197 57 (.dup) 58 := ⟨1, rfl, Or.inr rfl, rfl⟩
set_option maxRecDepth 100000 in
theorem lk197_58 : xAt kT197 58 (.getfield 124) 61 := ⟨3, rfl, Or.inr rfl, rfl⟩
set_option maxRecDepth 100000 in
theorem lk197_61 : xAt kT197 61 (.iconst 1) 62 := ⟨1, rfl, Or.inr rfl, rfl⟩
set_option maxRecDepth 100000 in
theorem lk197_62 : xAt kT197 62 (.iadd) 63 := ⟨1, rfl, Or.inr rfl, rfl⟩
set_option maxRecDepth 100000 in
theorem lk197_63 : xAt kT197 63 (.putfield 124) 66 := ⟨3, rfl, Or.inr rfl, rfl⟩
set_option maxRecDepth 100000 in
theorem lk197_66 : xAt kT197 66 (.aload_n 0) 67 := ⟨1, rfl, Or.inr rfl, rfl⟩
set_option maxRecDepth 100000 in
theorem lk197_67 : xAt kT197 67 (.getfield 31) 70 := ⟨3, rfl, Or.inr rfl, rfl⟩
set_option maxRecDepth 100000 in
theorem lk197_70 : xAt kT197 70 (.invokevirtual 55) 73 := ⟨3, rfl, Or.inr rfl, rfl⟩
set_option maxRecDepth 100000 in
theorem lk197_73 : xAt kT197 73 (.istore_n 3) 74 := ⟨1, rfl, Or.inr rfl, rfl⟩
set_option maxRecDepth 100000 in
theorem lk197_74 : xAt kT197 74 (.iload_n 3) 75 := ⟨1, rfl, Or.inr rfl, rfl⟩
set_option maxRecDepth 100000 in
theorem lk197_75 : xAt kT197 75 (.ifCond .le 29) 78 := ⟨3, rfl, Or.inr rfl, rfl⟩
set_option maxRecDepth 100000 in
theorem lk197_78 : xAt kT197 78 (.aload_n 0) 79 := ⟨1, rfl, Or.inr rfl, rfl⟩
set_option maxRecDepth 100000 in
theorem lk197_79 : xAt kT197 79 (.getfield 31) 82 := ⟨3, rfl, Or.inr rfl, rfl⟩
set_option maxRecDepth 100000 in
theorem lk197_82 : xAt kT197 82 (.iload_n 3) 83 := ⟨1, rfl, Or.inr rfl, rfl⟩
set_option maxRecDepth 100000 in
theorem lk197_83 : xAt kT197 83 (.iconst 1) 84 := ⟨1, rfl, Or.inr rfl, rfl⟩
set_option maxRecDepth 100000 in
theorem lk197_84 : xAt kT197 84 (.isub) 85 := ⟨1, rfl, Or.inr rfl, rfl⟩
set_option maxRecDepth 100000 in
theorem lk197_85 : xAt kT197 85 (.invokevirtual 127) 88 := ⟨3, rfl, Or.inr rfl, rfl⟩
set_option maxRecDepth 100000 in
theorem lk197_88 : xAt kT197 88 (.checkcast 52) 91 := ⟨3, rfl, Or.inr rfl, rfl⟩
set_option maxRecDepth 100000 in
theorem lk197_91 : xAt kT197 91 (.getfield 115) 94 := ⟨3, rfl, Or.inr rfl, rfl⟩
set_option maxRecDepth 100000 in
theorem lk197_94 : xAt kT197 94 (.iload_n 2) 95 := ⟨1, rfl, Or.inr rfl, rfl⟩
set_option maxRecDepth 100000 in
theorem lk197_95 : xAt kT197 95 (.if_icmp .le 9) 98 := ⟨3, rfl, Or.inr rfl, rfl⟩
set_option maxRecDepth 100000 in
theorem lk197_98 : xAt kT197 98 (.iinc 3 (-1)) 101 := ⟨3, rfl, Or.inr rfl, rfl⟩
set_option maxRecDepth 100000 in
theorem lk197_101 : xAt kT197 101 (.goto (-27)) 104 := ⟨3, rfl, Or.inr rfl, rfl⟩
set_option maxRecDepth 100000 in
theorem lk197_104 : xAt kT197 104 (.aload_n 0) 105 := ⟨1, rfl, Or.inr rfl, rfl⟩
set_option maxRecDepth 100000 in
theorem lk197_105 : xAt kT197 105 (.getfield 31) 108 := ⟨3, rfl, Or.inr rfl, rfl⟩
set_option maxRecDepth 100000 in
theorem lk197_108 : xAt kT197 108 (.iload_n 3) 109 := ⟨1, rfl, Or.inr rfl, rfl⟩
set_option maxRecDepth 100000 in
theorem lk197_109 : xAt kT197 109 (.aload_n 1) 110 := ⟨1, rfl, Or.inr rfl, rfl⟩
set_option maxRecDepth 100000 in
theorem lk197_110 : xAt kT197 110 (.invokevirtual 130) 113 := ⟨3, rfl, Or.inr rfl, rfl⟩
set_option maxRecDepth 100000 in
theorem lk197_113 : xAt kT197 113 (.return_) 114 := ⟨1, rfl, Or.inr rfl, rfl⟩
set_option maxRecDepth 100000 in
theorem lk189_0 : xAt kT189 0 (.aload_n 0) 1 := ⟨1, rfl, Or.inr rfl, rfl⟩
set_option maxRecDepth 100000 in
theorem lk189_1 : xAt kT189 1 (.aload_n 0) 2 := ⟨1, rfl, Or.inr rfl, rfl⟩
set_option maxRecDepth 100000 in
theorem lk189_2 : xAt kT189 2 (.getfield 100) 5 := ⟨3, rfl, Or.inr rfl, rfl⟩
set_option maxRecDepth 100000 in
theorem lk189_5 : xAt kT189 5 (.ldc2_w 104) 8 := ⟨3, rfl, Or.inr rfl, rfl⟩
set_option maxRecDepth 100000 in
theorem lk189_8 : xAt kT189 8 (.lmul) 9 := ⟨1, rfl, Or.inr rfl, rfl⟩
set_option maxRecDepth 100000 in
theorem lk189_9 : xAt kT189 9 (.ldc2_w 106) 12 := ⟨3, rfl, Or.inr rfl, rfl⟩
set_option maxRecDepth 100000 in
theorem lk189_12 : xAt kT189 12 (.ladd) 13 := ⟨1, rfl, Or.inr rfl, rfl⟩
set_option maxRecDepth 100000 in
theorem lk189_13 : xAt kT189 13 (.putfield 100) 16 := ⟨3, rfl, Or.inr rfl, rfl⟩
set_option maxRecDepth 100000 in
theorem lk189_16 : xAt kT189 16 (.iload_n 1) 17 := ⟨1, rfl, Or.inr rfl, rfl⟩
set_option maxRecDepth 100000 in
theorem lk189_17 : xAt kT189 17 (.iconst 1) 18 := ⟨1, rfl, Or.inr rfl, rfl⟩
set_option maxRecDepth 100000 in
theorem lk189_18 : xAt kT189 18 (.if_icmp .ge 7) 21 := ⟨3, rfl, Or.inr rfl, rfl⟩
set_option maxRecDepth 100000 in
theorem lk189_21 : xAt kT189 21 (.iconst 0) 22 := ⟨1, rfl, Or.inr rfl, rfl⟩
set_option maxRecDepth 100000 in
theorem lk189_22 : xAt kT189 22 (.goto 14) 25 := ⟨3, rfl, Or.inr rfl, rfl⟩
set_option maxRecDepth 100000 in
theorem lk189_25 : xAt kT189 25 (.aload_n 0) 26 := ⟨1, rfl, Or.inr rfl, rfl⟩
set_option maxRecDepth 100000 in
theorem lk189_26 : xAt kT189 26 (.getfield 100) 29 := ⟨3, rfl, Or.inr rfl, rfl⟩
set_option maxRecDepth 100000 in
theorem lk189_29 : xAt kT189 29 (.bipush 33) 31 := ⟨2, rfl, Or.inr rfl, rfl⟩
set_option maxRecDepth 100000 in
theorem lk189_31 : xAt kT189 31 (.lushr) 32 := ⟨1, rfl, Or.inr rfl, rfl⟩
set_option maxRecDepth 100000 in
theorem lk189_32 : xAt kT189 32 (.iload_n 1) 33 := ⟨1, rfl, Or.inr rfl, rfl⟩
set_option maxRecDepth 100000 in
theorem lk189_33 : xAt kT189 33 (.i2l) 34 := ⟨1, rfl, Or.inr rfl, rfl⟩
set_option maxRecDepth 100000 in
theorem lk189_34 : xAt kT189 34 (.lrem) 35 := ⟨1, rfl, Or.inr rfl, rfl⟩
set_option maxRecDepth 100000 in
theorem lk189_35 : xAt kT189 35 (.l2i) 36 := ⟨1, rfl, Or.inr rfl, rfl⟩
set_option maxRecDepth 100000 in
theorem lk189_36 : xAt kT189 36 (.ireturn) 37 := ⟨1, rfl, Or.inr rfl, rfl⟩
set_option maxRecDepth 100000 in
theorem lk59_0 : xAt kT59 0 (.aload_n 0) 1 := ⟨1, rfl, Or.inr rfl, rfl⟩
set_option maxRecDepth 100000 in
theorem lk59_1 : xAt kT59 1 (.aload_n 1) 2 := ⟨1, rfl, Or.inr rfl, rfl⟩
set_option maxRecDepth 100000 in
theorem lk59_2 : xAt kT59 2 (.getfield 19) 5 := ⟨3, rfl, Or.inr rfl, rfl⟩
set_option maxRecDepth 100000 in
theorem lk59_5 : xAt kT59 5 (.putfield 19) 8 := ⟨3, rfl, Or.inr rfl, rfl⟩
set_option maxRecDepth 100000 in
theorem lk59_8 : xAt kT59 8 (.aload_n 0) 9 := ⟨1, rfl, Or.inr rfl, rfl⟩
set_option maxRecDepth 100000 in
theorem lk59_9 : xAt kT59 9 (.aload_n 1) 10 := ⟨1, rfl, Or.inr rfl, rfl⟩
set_option maxRecDepth 100000 in
theorem lk59_10 : xAt kT59 10 (.getfield 23) 13 := ⟨3, rfl, Or.inr rfl, rfl⟩
set_option maxRecDepth 100000 in
theorem lk59_13 : xAt kT59 13 (.putfield 23) 16 := ⟨3, rfl, Or.inr rfl, rfl⟩
set_option maxRecDepth 100000 in
theorem lk59_16 : xAt kT59 16 (.aload_n 0) 17 := ⟨1, rfl, Or.inr rfl, rfl⟩
set_option maxRecDepth 100000 in
theorem lk59_17 : xAt kT59 17 (.aload_n 1) 18 := ⟨1, rfl, Or.inr rfl, rfl⟩
set_option maxRecDepth 100000 in
theorem lk59_18 : xAt kT59 18 (.getfield 26) 21 := ⟨3, rfl, Or.inr rfl, rfl⟩
set_option maxRecDepth 100000 in
theorem lk59_21 : xAt kT59 21 (.putfield 26) 24 := ⟨3, rfl, Or.inr rfl, rfl⟩
set_option maxRecDepth 100000 in
theorem lk59_24 : xAt kT59 24 (.aload_n 0) 25 := ⟨1, rfl, Or.inr rfl, rfl⟩
set_option maxRecDepth 100000 in
theorem lk59_25 : xAt kT59 25 (.aload_n 1) 26 := ⟨1, rfl, Or.inr rfl, rfl⟩
set_option maxRecDepth 100000 in
theorem lk59_26 : xAt kT59 26 (.getfield 29) 29 := ⟨3, rfl, Or.inr rfl, rfl⟩
set_option maxRecDepth 100000 in
theorem lk59_29 : xAt kT59 29 (.putfield 29) 32 := ⟨3, rfl, Or.inr rfl, rfl⟩
set_option maxRecDepth 100000 in
theorem lk59_32 : xAt kT59 32 (.aload_n 0) 33 := ⟨1, rfl, Or.inr rfl, rfl⟩
set_option maxRecDepth 100000 in
theorem lk59_33 : xAt kT59 33 (.aload_n 1) 34 := ⟨1, rfl, Or.inr rfl, rfl⟩
set_option maxRecDepth 100000 in
theorem lk59_34 : xAt kT59 34 (.getfield 32) 37 := ⟨3, rfl, Or.inr rfl, rfl⟩
set_option maxRecDepth 100000 in
theorem lk59_37 : xAt kT59 37 (.putfield 32) 40 := ⟨3, rfl, Or.inr rfl, rfl⟩
set_option maxRecDepth 100000 in
theorem lk59_40 : xAt kT59 40 (.aload_n 0) 41 := ⟨1, rfl, Or.inr rfl, rfl⟩
set_option maxRecDepth 100000 in
theorem lk59_41 : xAt kT59 41 (.aload_n 1) 42 := ⟨1, rfl, Or.inr rfl, rfl⟩
set_option maxRecDepth 100000 in
theorem lk59_42 : xAt kT59 42 (.getfield 35) 45 := ⟨3, rfl, Or.inr rfl, rfl⟩
set_option maxRecDepth 100000 in
theorem lk59_45 : xAt kT59 45 (.putfield 35) 48 := ⟨3, rfl, Or.inr rfl, rfl⟩
set_option maxRecDepth 100000 in
theorem lk59_48 : xAt kT59 48 (.aload_n 0) 49 := ⟨1, rfl, Or.inr rfl, rfl⟩
set_option maxRecDepth 100000 in
theorem lk59_49 : xAt kT59 49 (.aload_n 1) 50 := ⟨1, rfl, Or.inr rfl, rfl⟩
set_option maxRecDepth 100000 in
theorem lk59_50 : xAt kT59 50 (.getfield 38) 53 := ⟨3, rfl, Or.inr rfl, rfl⟩
set_option maxRecDepth 100000 in
theorem lk59_53 : xAt kT59 53 (.putfield 38) 56 := ⟨3, rfl, Or.inr rfl, rfl⟩
set_option maxRecDepth 100000 in
theorem lk59_56 : xAt kT59 56 (.aload_n 0) 57 := ⟨1, rfl, Or.inr rfl, rfl⟩
set_option maxRecDepth 100000 in
theorem lk59_57 : xAt kT59 57 (.aload_n 1) 58 := ⟨1, rfl, Or.inr rfl, rfl⟩
set_option maxRecDepth 100000 in
theorem lk59_58 : xAt kT59 58 (.getfield 41) 61 := ⟨3, rfl, Or.inr rfl, rfl⟩
set_option maxRecDepth 100000 in
theorem lk59_61 : xAt kT59 61 (.putfield 41) 64 := ⟨3, rfl, Or.inr rfl, rfl⟩
set_option maxRecDepth 100000 in
theorem lk59_64 : xAt kT59 64 (.aload_n 0) 65 := ⟨1, rfl, Or.inr rfl, rfl⟩
set_option maxRecDepth 100000 in
theorem lk59_65 : xAt kT59 65 (.aload_n 1) 66 := ⟨1, rfl, Or.inr rfl, rfl⟩
set_option maxRecDepth 100000 in
theorem lk59_66 : xAt kT59 66 (.getfield 44) 69 := ⟨3, rfl, Or.inr rfl, rfl⟩
set_option maxRecDepth 100000 in
theorem lk59_69 : xAt kT59 69 (.putfield 44) 72 := ⟨3, rfl, Or.inr rfl, rfl⟩
set_option maxRecDepth 100000 in
theorem lk59_72 : xAt kT59 72 (.aload_n 0) 73 := ⟨1, rfl, Or.inr rfl, rfl⟩
set_option maxRecDepth 100000 in
theorem lk59_73 : xAt kT59 73 (.aload_n 1) 74 := ⟨1, rfl, Or.inr rfl, rfl⟩
set_option maxRecDepth 100000 in
theorem lk59_74 : xAt kT59 74 (.getfield 47) 77 := ⟨3, rfl, Or.inr rfl, rfl⟩
set_option maxRecDepth 100000 in
theorem lk59_77 : xAt kT59 77 (.putfield 47) 80 := ⟨3, rfl, Or.inr rfl, rfl⟩
set_option maxRecDepth 100000 in
theorem lk59_80 : xAt kT59 80 (.aload_n 0) 81 := ⟨1, rfl, Or.inr rfl, rfl⟩
set_option maxRecDepth 100000 in
theorem lk59_81 : xAt kT59 81 (.aload_n 1) 82 := ⟨1, rfl, Or.inr rfl, rfl⟩
set_option maxRecDepth 100000 in
theorem lk59_82 : xAt kT59 82 (.getfield 50) 85 := ⟨3, rfl, Or.inr rfl, rfl⟩
set_option maxRecDepth 100000 in
theorem lk59_85 : xAt kT59 85 (.putfield 50) 88 := ⟨3, rfl, Or.inr rfl, rfl⟩
set_option maxRecDepth 100000 in
theorem lk59_88 : xAt kT59 88 (.aload_n 0) 89 := ⟨1, rfl, Or.inr rfl, rfl⟩
set_option maxRecDepth 100000 in
theorem lk59_89 : xAt kT59 89 (.aload_n 1) 90 := ⟨1, rfl, Or.inr rfl, rfl⟩
set_option maxRecDepth 100000 in
theorem lk59_90 : xAt kT59 90 (.getfield 53) 93 := ⟨3, rfl, Or.inr rfl, rfl⟩
set_option maxRecDepth 100000 in
theorem lk59_93 : xAt kT59 93 (.putfield 53) 96 := ⟨3, rfl, Or.inr rfl, rfl⟩
set_option maxRecDepth 100000 in
theorem lk59_96 : xAt kT59 96 (.aload_n 0) 97 := ⟨1, rfl, Or.inr rfl, rfl⟩
set_option maxRecDepth 100000 in
theorem lk59_97 : xAt kT59 97 (.aload_n 1) 98 := ⟨1, rfl, Or.inr rfl, rfl⟩
set_option maxRecDepth 100000 in
theorem lk59_98 : xAt kT59 98 (.getfield 56) 101 := ⟨3, rfl, Or.inr rfl, rfl⟩
set_option maxRecDepth 100000 in
theorem lk59_101 : xAt kT59 101 (.putfield 56) 104 := ⟨3, rfl, Or.inr rfl, rfl⟩
set_option maxRecDepth 100000 in
theorem lk59_104 : xAt kT59 104 (.aload_n 0) 105 := ⟨1, rfl, Or.inr rfl, rfl⟩
set_option maxRecDepth 100000 in
theorem lk59_105 : xAt kT59 105 (.aload_n 1) 106 := ⟨1, rfl, Or.inr rfl, rfl⟩
set_option maxRecDepth 100000 in
theorem lk59_106 : xAt kT59 106 (.getfield 59) 109 := ⟨3, rfl, Or.inr rfl, rfl⟩
set_option maxRecDepth 100000 in
theorem lk59_109 : xAt kT59 109 (.putfield 59) 112 := ⟨3, rfl, Or.inr rfl, rfl⟩
set_option maxRecDepth 100000 in
theorem lk59_112 : xAt kT59 112 (.aload_n 0) 113 := ⟨1, rfl, Or.inr rfl, rfl⟩
set_option maxRecDepth 100000 in
theorem lk59_113 : xAt kT59 113 (.aload_n 1) 114 := ⟨1, rfl, Or.inr rfl, rfl⟩
set_option maxRecDepth 100000 in
theorem lk59_114 : xAt kT59 114 (.getfield 62) 117 := ⟨3, rfl, Or.inr rfl, rfl⟩
set_option maxRecDepth 100000 in
theorem lk59_117 : xAt kT59 117 (.putfield 62) 120 := ⟨3, rfl, Or.inr rfl, rfl⟩
set_option maxRecDepth 100000 in
theorem lk59_120 : xAt kT59 120 (.aload_n 0) 121 := ⟨1, rfl, Or.inr rfl, rfl⟩
set_option maxRecDepth 100000 in
theorem lk59_121 : xAt kT59 121 (.aload_n 1) 122 := ⟨1, rfl, Or.inr rfl, rfl⟩
set_option maxRecDepth 100000 in
theorem lk59_122 : xAt kT59 122 (.getfield 65) 125 := ⟨3, rfl, Or.inr rfl, rfl⟩
set_option maxRecDepth 100000 in
theorem lk59_125 : xAt kT59 125 (.putfield 65) 128 := ⟨3, rfl, Or.inr rfl, rfl⟩
set_option maxRecDepth 100000 in
theorem lk59_128 : xAt kT59 128 (.aload_n 1) 129 := ⟨1, rfl, Or.inr rfl, rfl⟩
set_option maxRecDepth 100000 in
theorem lk59_129 : xAt kT59 129 (.getfield 9) 132 := ⟨3, rfl, Or.inr rfl, rfl⟩
set_option maxRecDepth 100000 in
theorem lk59_132 : xAt kT59 132 (.iconst 0) 133 := ⟨1, rfl, Or.inr rfl, rfl⟩
set_option maxRecDepth 100000 in
theorem lk59_133 : xAt kT59 133 (.aload_n 0) 134 := ⟨1, rfl, Or.inr rfl, rfl⟩
set_option maxRecDepth 100000 in
theorem lk59_134 : xAt kT59 134 (.getfield 9) 137 := ⟨3, rfl, Or.inr rfl, rfl⟩
set_option maxRecDepth 100000 in
theorem lk59_137 : xAt kT59 137 (.iconst 0) 138 := ⟨1, rfl, Or.inr rfl, rfl⟩
set_option maxRecDepth 100000 in
theorem lk59_138 : xAt kT59 138 (.aload_n 0) 139 := ⟨1, rfl, Or.inr rfl, rfl⟩
set_option maxRecDepth 100000 in
theorem lk59_139 : xAt kT59 139 (.getfield 9) 142 := ⟨3, rfl, Or.inr rfl, rfl⟩
set_option maxRecDepth 100000 in
theorem lk59_142 : xAt kT59 142 (.arraylength) 143 := ⟨1, rfl, Or.inr rfl, rfl⟩
set_option maxRecDepth 100000 in
theorem lk59_143 : xAt kT59 143 (.invokestatic 68) 146 := ⟨3, rfl, Or.inr rfl, rfl⟩
set_option maxRecDepth 100000 in
theorem lk59_146 : xAt kT59 146 (.aload_n 1) 147 := ⟨1, rfl, Or.inr rfl, rfl⟩
set_option maxRecDepth 100000 in
theorem lk59_147 : xAt kT59 147 (.getfield 15) 150 := ⟨3, rfl, Or.inr rfl, rfl⟩
set_option maxRecDepth 100000 in
theorem lk59_150 : xAt kT59 150 (.iconst 0) 151 := ⟨1, rfl, Or.inr rfl, rfl⟩
set_option maxRecDepth 100000 in
theorem lk59_151 : xAt kT59 151 (.aload_n 0) 152 := ⟨1, rfl, Or.inr rfl, rfl⟩
set_option maxRecDepth 100000 in
theorem lk59_152 : xAt kT59 152 (.getfield 15) 155 := ⟨3, rfl, Or.inr rfl, rfl⟩
set_option maxRecDepth 100000 in
theorem lk59_155 : xAt kT59 155 (.iconst 0) 156 := ⟨1, rfl, Or.inr rfl, rfl⟩
set_option maxRecDepth 100000 in
theorem lk59_156 : xAt kT59 156 (.aload_n 0) 157 := ⟨1, rfl, Or.inr rfl, rfl⟩
set_option maxRecDepth 100000 in
theorem lk59_157 : xAt kT59 157 (.getfield 15) 160 := ⟨3, rfl, Or.inr rfl, rfl⟩
set_option maxRecDepth 100000 in
theorem lk59_160 : xAt kT59 160 (.arraylength) 161 := ⟨1, rfl, Or.inr rfl, rfl⟩
set_option maxRecDepth 100000 in
theorem lk59_161 : xAt kT59 161 (.invokestatic 68) 164 := ⟨3, rfl, Or.inr rfl, rfl⟩
set_option maxRecDepth 100000 in
theorem lk59_164 : xAt kT59 164 (.return_) 165 := ⟨1, rfl, Or.inr rfl, rfl⟩
set_option maxRecDepth 100000 in
theorem lk199_0 : xAt kT199 0 (.aload_n 0) 1 := ⟨1, rfl, Or.inr rfl, rfl⟩
set_option maxRecDepth 100000 in
theorem lk199_1 : xAt kT199 1 (.aload_n 1) 2 := ⟨1, rfl, Or.inr rfl, rfl⟩
set_option maxRecDepth 100000 in
theorem lk199_2 : xAt kT199 2 (.getfield 63) 5 := ⟨3, rfl, Or.inr rfl, rfl⟩
set_option maxRecDepth 100000 in
theorem lk199_5 : xAt kT199 5 (.aload_n 1) 6 := ⟨1, rfl, Or.inr rfl, rfl⟩
set_option maxRecDepth 100000 in
theorem lk199_6 : xAt kT199 6 (.getfield 66) 9 := ⟨3, rfl, Or.inr rfl, rfl⟩
set_option maxRecDepth 100000 in
theorem lk199_9 : xAt kT199 9 (.invokevirtual 69) 12 := ⟨3, rfl, Or.inr rfl, rfl⟩
set_option maxRecDepth 100000 in
theorem lk199_12 : xAt kT199 12 (.ifCond .eq 9) 15 := ⟨3, rfl, Or.inr rfl, rfl⟩
set_option maxRecDepth 100000 in
theorem lk199_15 : xAt kT199 15 (.aload_n 0) 16 := ⟨1, rfl, Or.inr rfl, rfl⟩
set_option maxRecDepth 100000 in
theorem lk199_16 : xAt kT199 16 (.aload_n 1) 17 := ⟨1, rfl, Or.inr rfl, rfl⟩
set_option maxRecDepth 100000 in
theorem lk199_17 : xAt kT199 17 (.invokevirtual 73) 20 := ⟨3, rfl, Or.inr rfl, rfl⟩
set_option maxRecDepth 100000 in
theorem lk199_20 : xAt kT199 20 (.return_) 21 := ⟨1, rfl, Or.inr rfl, rfl⟩
set_option maxRecDepth 100000 in
theorem lk199_21 : xAt kT199 21 (.aload_n 0) 22 := ⟨1, rfl, Or.inr rfl, rfl⟩
set_option maxRecDepth 100000 in
theorem lk199_22 : xAt kT199 22 (.getfield 77) 25 := ⟨3, rfl, Or.inr rfl, rfl⟩
set_option maxRecDepth 100000 in
theorem lk199_25 : xAt kT199 25 (.aload_n 0) 26 := ⟨1, rfl, Or.inr rfl, rfl⟩
set_option maxRecDepth 100000 in
theorem lk199_26 : xAt kT199 26 (.getfield 18) 29 := ⟨3, rfl, Or.inr rfl, rfl⟩
set_option maxRecDepth 100000 in
theorem lk199_29 : xAt kT199 29 (.aload_n 1) 30 := ⟨1, rfl, Or.inr rfl, rfl⟩
set_option maxRecDepth 100000 in
theorem lk199_30 : xAt kT199 30 (.getfield 63) 33 := ⟨3, rfl, Or.inr rfl, rfl⟩
set_option maxRecDepth 100000 in
theorem lk199_33 : xAt kT199 33 (.bipush 16) 35 := ⟨2, rfl, Or.inr rfl, rfl⟩
set_option maxRecDepth 100000 in
theorem lk199_35 : xAt kT199 35 (.imul) 36 := ⟨1, rfl, Or.inr rfl, rfl⟩
set_option maxRecDepth 100000 in
theorem lk199_36 : xAt kT199 36 (.aload_n 1) 37 := ⟨1, rfl, Or.inr rfl, rfl⟩
set_option maxRecDepth 100000 in
theorem lk199_37 : xAt kT199 37 (.getfield 66) 40 := ⟨3, rfl, Or.inr rfl, rfl⟩
set_option maxRecDepth 100000 in
theorem lk199_40 : xAt kT199 40 (.iadd) 41 := ⟨1, rfl, Or.inr rfl, rfl⟩
set_option maxRecDepth 100000 in
theorem lk199_41 : xAt kT199 41 (.iaload) 42 := ⟨1, rfl, Or.inr rfl, rfl⟩
set_option maxRecDepth 100000 in
theorem lk199_42 : xAt kT199 42 (.iadd) 43 := ⟨1, rfl, Or.inr rfl, rfl⟩
set_option maxRecDepth 100000 in
theorem lk199_43 : xAt kT199 43 (.istore_n 2) 44 := ⟨1, rfl, Or.inr rfl, rfl⟩
set_option maxRecDepth 100000 in
theorem lk199_44 : xAt kT199 44 (.aload_n 0) 45 := ⟨1, rfl, Or.inr rfl, rfl⟩
set_option maxRecDepth 100000 in
theorem lk199_45 : xAt kT199 45 (.getfield 80) 48 := ⟨3, rfl, Or.inr rfl, rfl⟩
set_option maxRecDepth 100000 in
theorem lk199_48 : xAt kT199 48 (.ifCond .ne 24) 51 := ⟨3, rfl, Or.inr rfl, rfl⟩
set_option maxRecDepth 100000 in
theorem lk199_51 : xAt kT199 51 (.aload_n 0) 52 := ⟨1, rfl, Or.inr rfl, rfl⟩
set_option maxRecDepth 100000 in
theorem lk199_52 : xAt kT199 52 (.getfield 83) 55 := ⟨3, rfl, Or.inr rfl, rfl⟩
set_option maxRecDepth 100000 in
theorem lk199_55 : xAt kT199 55 (.ifCond .ne 17) 58 := ⟨3, rfl, Or.inr rfl, rfl⟩
set_option maxRecDepth 100000 in
theorem lk199_58 : xAt kT199 58 (.aload_n 0) 59 := ⟨1, rfl, Or.inr rfl, rfl⟩
set_option maxRecDepth 100000 in
theorem lk199_59 : xAt kT199 59 (.getfield 86) 62 := ⟨3, rfl, Or.inr rfl, rfl⟩
set_option maxRecDepth 100000 in
theorem lk199_62 : xAt kT199 62 (.ifCond .ne 10) 65 := ⟨3, rfl, Or.inr rfl, rfl⟩
set_option maxRecDepth 100000 in
theorem lk199_65 : xAt kT199 65 (.aload_n 0) 66 := ⟨1, rfl, Or.inr rfl, rfl⟩
set_option maxRecDepth 100000 in
theorem lk199_66 : xAt kT199 66 (.aload_n 1) 67 := ⟨1, rfl, Or.inr rfl, rfl⟩
set_option maxRecDepth 100000 in
theorem lk199_67 : xAt kT199 67 (.iload_n 2) 68 := ⟨1, rfl, Or.inr rfl, rfl⟩
set_option maxRecDepth 100000 in
theorem lk199_68 : xAt kT199 68 (.invokevirtual 89) 71 := ⟨3, rfl, Or.inr rfl, rfl⟩
set_option maxRecDepth 100000 in
theorem lk199_71 : xAt kT199 71 (.return_) 72 := ⟨1, rfl, Or.inr rfl, rfl⟩
set_option maxRecDepth 100000 in
theorem lk199_72 : xAt kT199 72 (.aload_n 0) 73 := ⟨1, rfl, Or.inr rfl, rfl⟩
set_option maxRecDepth 100000 in
theorem lk199_73 : xAt kT199 73 (.sipush 1000) 76 := ⟨3, rfl, Or.inr rfl, rfl⟩
set_option maxRecDepth 100000 in
theorem lk199_76 : xAt kT199 76 (.invokevirtual 93) 79 := ⟨3, rfl, Or.inr rfl, rfl⟩
set_option maxRecDepth 100000 in
theorem lk199_79 : xAt kT199 79 (.aload_n 0) 80 := ⟨1, rfl, Or.inr rfl, rfl⟩
set_option maxRecDepth 100000 in
theorem lk199_80 : xAt kT199 80 (.getfield 80) 83 := ⟨3, rfl, Or.inr rfl, rfl⟩
set_option maxRecDepth 100000 in
theorem lk199_83 : xAt kT199 83 (.if_icmp .ge 9) 86 := ⟨3, rfl, Or.inr rfl, rfl⟩
set_option maxRecDepth 100000 in
theorem lk199_86 : xAt kT199 86 (.aload_n 0) 87 := ⟨1, rfl, Or.inr rfl, rfl⟩
set_option maxRecDepth 100000 in
theorem lk199_87 : xAt kT199 87 (.aload_n 1) 88 := ⟨1, rfl, Or.inr rfl, rfl⟩
set_option maxRecDepth 100000 in
theorem lk199_88 : xAt kT199 88 (.invokevirtual 73) 91 := ⟨3, rfl, Or.inr rfl, rfl⟩
set_option maxRecDepth 100000 in
theorem lk199_91 : xAt kT199 91 (.return_) 92 := ⟨1, rfl, Or.inr rfl, rfl⟩
set_option maxRecDepth 100000 in
theorem lk199_92 : xAt kT199 92 (.aload_n 0) 93 := ⟨1, rfl, Or.inr rfl, rfl⟩
set_option maxRecDepth 100000 in
theorem lk199_93 : xAt kT199 93 (.sipush 1000) 96 := ⟨3, rfl, Or.inr rfl, rfl⟩
set_option maxRecDepth 100000 in
theorem lk199_96 : xAt kT199 96 (.invokevirtual 93) 99 := ⟨3, rfl, Or.inr rfl, rfl⟩
set_option maxRecDepth 100000 in
theorem lk199_99 : xAt kT199 99 (.aload_n 0) 100 := ⟨1, rfl, Or.inr rfl, rfl⟩
set_option maxRecDepth 100000 in
theorem lk199_100 : xAt kT199 100 (.getfield 83) 103 := ⟨3, rfl, Or.inr rfl, rfl⟩
set_option maxRecDepth 100000 in
theorem lk199_103 : xAt kT199 103 (.if_icmp .ge 7) 106 := ⟨3, rfl, Or.inr rfl, rfl⟩
set_option maxRecDepth 100000 in
theorem lk199_106 : xAt kT199 106 (.iconst 1) 107 := ⟨1, rfl, Or.inr rfl, rfl⟩
set_option maxRecDepth 100000 in
theorem lk199_107 : xAt kT199 107 (.goto 4) 110 := ⟨3, rfl, Or.inr rfl, rfl⟩
set_option maxRecDepth 100000 in
theorem lk199_110 : xAt kT199 110 (.iconst 0) 111 := ⟨1, rfl, Or.inr rfl, rfl⟩
set_option maxRecDepth 100000 in
theorem lk199_111 : xAt kT199 111 (.istore_n 3) 112 := ⟨1, rfl, Or.inr rfl, rfl⟩
set_option maxRecDepth 100000 in
theorem lk199_112 : xAt kT199 112 (.iload_n 3) 113 := ⟨1, rfl, Or.inr rfl, rfl⟩
set_option maxRecDepth 100000 in
theorem lk199_113 : xAt kT199 113 (.ifCond .ne 7) 116 := ⟨3, rfl, Or.inr rfl, rfl⟩
set_option maxRecDepth 100000 in
theorem lk199_116 : xAt kT199 116 (.aconst_null) 117 := ⟨1, rfl, Or.inr rfl, rfl⟩
set_option maxRecDepth 100000 in
theorem lk199_117 : xAt kT199 117 (.goto 42) 120 := ⟨3, rfl, Or.inr rfl, rfl⟩
set_option maxRecDepth 100000 in
theorem lk199_120 : xAt kT199 120 (.aload_n 0) 121 := ⟨1, rfl, Or.inr rfl, rfl⟩
set_option maxRecDepth 100000 in
theorem lk199_121 : xAt kT199 121 (.getfield 35) 124 := ⟨3, rfl, Or.inr rfl, rfl⟩
set_option maxRecDepth 100000 in
theorem lk199_124 : xAt kT199 124 (.invokevirtual 48) 127 := ⟨3, rfl, Or.inr rfl, rfl⟩
set_option maxRecDepth 100000 in
theorem lk199_127 : xAt kT199 127 (.ifCond .eq 13) 130 := ⟨3, rfl, Or.inr rfl, rfl⟩
set_option maxRecDepth 100000 in
theorem lk199_130 : xAt kT199 130 (.new 52) 133 := ⟨3, rfl, Or.inr rfl, rfl⟩
set_option maxRecDepth 100000 in
theorem lk199_133 : xAt kT199 133 (.dup) 134 := ⟨1, rfl, Or.inr rfl, rfl⟩
set_option maxRecDepth 100000 in
theorem lk199_134 : xAt kT199 134 (.invokespecial 54) 137 := ⟨3, rfl, Or.inr rfl, rfl⟩
set_option maxRecDepth 100000 in
theorem lk199_137 : xAt kT199 137 (.goto 22) 140 := ⟨3, rfl, Or.inr rfl, rfl⟩
set_option maxRecDepth 100000 in
theorem lk199_140 : xAt kT199 140 (.aload_n 0) 141 := ⟨1, rfl, Or.inr rfl, rfl⟩
set_option maxRecDepth 100000 in
theorem lk199_141 : xAt kT199 141 (.getfield 35) 144 := ⟨3, rfl, Or.inr rfl, rfl⟩
set_option maxRecDepth 100000 in
theorem lk199_144 : xAt kT199 144 (.aload_n 0) 145 := ⟨1, rfl, Or.inr rfl, rfl⟩
set_option maxRecDepth 100000 in
theorem lk199_145 : xAt kT199 145 (.getfield 35) 148 := ⟨3, rfl, Or.inr rfl, rfl⟩
set_option maxRecDepth 100000 in
theorem lk199_148 : xAt kT199 148 (.invokevirtual 55) 151 := ⟨3, rfl, Or.inr rfl, rfl⟩
set_option maxRecDepth 100000 in
theorem lk199_151 : xAt kT199 151 (.iconst 1) 152 := ⟨1, rfl, Or.inr rfl, rfl⟩
set_option maxRecDepth 100000 in
theorem lk199_152 : xAt kT199 152 (.isub) 153 := ⟨1, rfl, Or.inr rfl, rfl⟩
set_option maxRecDepth 100000 in
theorem lk199_153 : xAt kT199 153 (.invokevirtual 59) 156 := ⟨3, rfl, Or.inr rfl, rfl⟩
set_option maxRecDepth 100000 in
theorem lk199_156 : xAt kT199 156 (.checkcast 52) 159 := ⟨3, rfl, Or.inr rfl, rfl⟩
set_option maxRecDepth 100000 in
theorem lk199_159 : xAt kT199 159 (.astore 4) 161 := ⟨2, rfl, Or.inr rfl, rfl⟩
set_option maxRecDepth 100000 in
theorem lk199_161 : xAt kT199 161 (.aload 4) 163 := ⟨2, rfl, Or.inr rfl, rfl⟩
set_option maxRecDepth 100000 in
theorem lk199_163 : xAt kT199 163 (.ifnull 9) 166 := ⟨3, rfl, Or.inr rfl, rfl⟩
set_option maxRecDepth 100000 in
theorem lk199_166 : xAt kT199 166 (.aload 4) 168 := ⟨2, rfl, Or.inr rfl, rfl⟩
set_option maxRecDepth 100000 in
theorem lk199_168 : xAt kT199 168 (.aload_n 1) 169 := ⟨1, rfl, Or.inr rfl, rfl⟩
set_option maxRecDepth 100000 in
theorem lk199_169 : xAt kT199 169 (.invokevirtual 97) 172 := ⟨3, rfl, Or.inr rfl, rfl⟩
set_option maxRecDepth 100000 in
theorem lk199_172 : xAt kT199 172 (.aload_n 0) 173 := ⟨1, rfl, Or.inr rfl, rfl⟩
set_option maxRecDepth 100000 in
theorem lk199_173 : xAt kT199 173 (.aload_n 1) 174 := ⟨1, rfl, Or.inr rfl, rfl⟩
set_option maxRecDepth 100000 in
theorem lk199_174 : xAt kT199 174 (.iload_n 2) 175 := ⟨1, rfl, Or.inr rfl, rfl⟩
set_option maxRecDepth 100000 in
theorem lk199_175 : xAt kT199 175 (.aload_n 0) 176 := ⟨1, rfl, Or.inr rfl, rfl⟩
set_option maxRecDepth 100000 in
theorem lk199_176 : xAt kT199 176 (.aload_n 0) 177 := ⟨1, rfl, Or.inr rfl, rfl⟩
set_option maxRecDepth 100000 in
theorem lk199_177 : xAt kT199 177 (.getfield 86) 180 := ⟨3, rfl, Or.inr rfl, rfl⟩
set_option maxRecDepth 100000 in
theorem lk199_180 : xAt kT199 180 (.iconst 1) 181 := ⟨1, rfl, Or.inr rfl, rfl⟩
set_option maxRecDepth 100000 in
theorem lk199_181 : xAt kT199 181 (.iadd) 182 := ⟨1, rfl, Or.inr rfl, rfl⟩
set_option maxRecDepth 100000 in
theorem lk199_182 : xAt kT199 182 (.invokevirtual 93) 185 := ⟨3, rfl, Or.inr rfl, rfl⟩
set_option maxRecDepth 100000 in
theorem lk199_185 : xAt kT199 185 (.iadd) 186 := ⟨1, rfl, Or.inr rfl, rfl⟩
set_option maxRecDepth 100000 in
theorem lk199_186 : xAt kT199 186 (.invokevirtual 89) 189 := ⟨3, rfl, Or.inr rfl, rfl⟩
set_option maxRecDepth 100000 in
theorem lk199_189 : xAt kT199 189 (.aload 4) 191 := ⟨2, rfl, Or.inr rfl, rfl⟩
set_option maxRecDepth 100000 in
theorem lk199_191 : xAt kT199 191 (.ifnull 21) 194 := ⟨3, rfl, Or.inr rfl, rfl⟩
set_option maxRecDepth 100000 in
theorem lk199_194 : xAt kT199 194 (.aload_n 0) 195 := ⟨1, rfl, Or.inr rfl, rfl⟩
set_option maxRecDepth 100000 in
theorem lk199_195 : xAt kT199 195 (.aload 4) 197 := ⟨2, rfl, Or.inr rfl, rfl⟩
set_option maxRecDepth 100000 in
theorem lk199_197 : xAt kT199 197 (.iload_n 2) 198 := ⟨1, rfl, Or.inr rfl, rfl⟩
set_option maxRecDepth 100000 in
theorem lk199_198 : xAt kT199 198 (.aload_n 0) 199 := ⟨1, rfl, Or.inr rfl, rfl⟩
set_option maxRecDepth 100000 in
theorem lk199_199 : xAt kT199 199 (.aload_n 0) 200 := ⟨1, rfl, Or.inr rfl, rfl⟩
set_option maxRecDepth 100000 in
theorem lk199_200 : xAt kT199 200 (.getfield 86) 203 := ⟨3, rfl, Or.inr rfl, rfl⟩
set_option maxRecDepth 100000 in
theorem lk199_203 : xAt kT199 203 (.iconst 1) 204 := ⟨1, rfl, Or.inr rfl, rfl⟩
set_option maxRecDepth 100000 in
theorem lk199_204 : xAt kT199 204 (.iadd) 205 := ⟨1, rfl, Or.inr rfl, rfl⟩
set_option maxRecDepth 100000 in
theorem lk199_205 : xAt kT199 205 (.invokevirtual 93) 208 := ⟨3, rfl, Or.inr rfl, rfl⟩
set_option maxRecDepth 100000 in
theorem lk199_208 : xAt kT199 208 (.iadd) 209 := ⟨1, rfl, Or.inr rfl, rfl⟩
set_option maxRecDepth 100000 in
theorem lk199_209 : xAt kT199 209 (.invokevirtual 89) 212 := ⟨3, rfl, Or.inr rfl, rfl⟩
set_option maxRecDepth 100000 in
theorem lk199_212 : xAt kT199 212 (.return_) 213 := ⟨1, rfl, Or.inr rfl, rfl⟩
set_option maxRecDepth 100000 in
theorem lk200_0 : xAt kT200 0 (.aload_n 0) 1 := ⟨1, rfl, Or.inr rfl, rfl⟩
set_option maxRecDepth 100000 in
theorem lk200_1 : xAt kT200 1 (.getfield 9) 4 := ⟨3, rfl, Or.inr rfl, rfl⟩
set_option maxRecDepth 100000 in
theorem lk200_4 : xAt kT200 4 (.iload_n 1) 5 := ⟨1, rfl, Or.inr rfl, rfl⟩
set_option maxRecDepth 100000 in
theorem lk200_5 : xAt kT200 5 (.iload_n 2) 6 := ⟨1, rfl, Or.inr rfl, rfl⟩
set_option maxRecDepth 100000 in
theorem lk200_6 : xAt kT200 6 (.iastore) 7 := ⟨1, rfl, Or.inr rfl, rfl⟩
set_option maxRecDepth 100000 in
theorem lk200_7 : xAt kT200 7 (.aload_n 0) 8 := ⟨1, rfl, Or.inr rfl, rfl⟩
set_option maxRecDepth 100000 in
theorem lk200_8 : xAt kT200 8 (.getfield 15) 11 := ⟨3, rfl, Or.inr rfl, rfl⟩
set_option maxRecDepth 100000 in
theorem lk200_11 : xAt kT200 11 (.iload_n 1) 12 := ⟨1, rfl, Or.inr rfl, rfl⟩
set_option maxRecDepth 100000 in
theorem lk200_12 : xAt kT200 12 (.aload_n 0) 13 := ⟨1, rfl, Or.inr rfl, rfl⟩
set_option maxRecDepth 100000 in
theorem lk200_13 : xAt kT200 13 (.getfield 118) 16 := ⟨3, rfl, Or.inr rfl, rfl⟩
set_option maxRecDepth 100000 in
theorem lk200_16 : xAt kT200 16 (.iastore) 17 := ⟨1, rfl, Or.inr rfl, rfl⟩
set_option maxRecDepth 100000 in
theorem lk200_17 : xAt kT200 17 (.aload_n 0) 18 := ⟨1, rfl, Or.inr rfl, rfl⟩
set_option maxRecDepth 100000 in
theorem lk200_18 : xAt kT200 18 (.dup) 19 := ⟨1, rfl, Or.inr rfl, rfl⟩
set_option maxRecDepth 100000 in
theorem lk200_19 : xAt kT200 19 (.getfield 118) 22 := ⟨3, rfl, Or.inr rfl, rfl⟩
set_option maxRecDepth 100000 in
theorem lk200_22 : xAt kT200 22 (.iconst 1) 23 := ⟨1, rfl, Or.inr rfl, rfl⟩
set_option maxRecDepth 100000 in
theorem lk200_23 : xAt kT200 23 (.iadd) 24 := ⟨1, rfl, Or.inr rfl, rfl⟩
set_option maxRecDepth 100000 in
theorem lk200_24 : xAt kT200 24 (.putfield 118) 27 := ⟨3, rfl, Or.inr rfl, rfl⟩
set_option maxRecDepth 100000 in
theorem lk200_27 : xAt kT200 27 (.return_) 28 := ⟨1, rfl, Or.inr rfl, rfl⟩
set_option maxRecDepth 100000 in
theorem lk29_0 : xAt kT29 0 (.aload_n 0) 1 := ⟨1, rfl, Or.inr rfl, rfl⟩
set_option maxRecDepth 100000 in
theorem lk29_1 : xAt kT29 1 (.getfield 25) 4 := ⟨3, rfl, Or.inr rfl, rfl⟩
set_option maxRecDepth 100000 in
theorem lk29_4 : xAt kT29 4 (.aload_n 0) 5 := ⟨1, rfl, Or.inr rfl, rfl⟩
set_option maxRecDepth 100000 in
theorem lk29_5 : xAt kT29 5 (.getfield 22) 8 := ⟨3, rfl, Or.inr rfl, rfl⟩
set_option maxRecDepth 100000 in
theorem lk29_8 : xAt kT29 8 (.aload_n 0) 9 := ⟨1, rfl, Or.inr rfl, rfl⟩
set_option maxRecDepth 100000 in
theorem lk29_9 : xAt kT29 9 (.getfield 25) 12 := ⟨3, rfl, Or.inr rfl, rfl⟩
set_option maxRecDepth 100000 in
theorem lk29_12 : xAt kT29 12 (.getfield 108) 15 := ⟨3, rfl, Or.inr rfl, rfl⟩
set_option maxRecDepth 100000 in
theorem lk29_15 : xAt kT29 15 (.iload_n 1) 16 := ⟨1, rfl, Or.inr rfl, rfl⟩
set_option maxRecDepth 100000 in
theorem lk29_16 : xAt kT29 16 (.iadd) 17 := ⟨1, rfl, Or.inr rfl, rfl⟩
set_option maxRecDepth 100000 in
theorem lk29_17 : xAt kT29 17 (.invokevirtual 111) 20 := ⟨3, rfl, Or.inr rfl, rfl⟩
set_option maxRecDepth 100000 in
theorem lk29_20 : xAt kT29 20 (.aload_n 0) 21 := ⟨1, rfl, Or.inr rfl, rfl⟩
set_option maxRecDepth 100000 in
theorem lk29_21 : xAt kT29 21 (.iload_n 2) 22 := ⟨1, rfl, Or.inr rfl, rfl⟩
set_option maxRecDepth 100000 in
theorem lk29_22 : xAt kT29 22 (.putfield 115) 25 := ⟨3, rfl, Or.inr rfl, rfl⟩
set_option maxRecDepth 100000 in
theorem lk29_25 : xAt kT29 25 (.return_) 26 := ⟨1, rfl, Or.inr rfl, rfl⟩
set_option maxRecDepth 100000 in
theorem lk28_0 : xAt kT28 0 (.aload_n 0) 1 := ⟨1, rfl, Or.inr rfl, rfl⟩
set_option maxRecDepth 100000 in
theorem lk28_1 : xAt kT28 1 (.dup) 2 := ⟨1, rfl, Or.inr rfl, rfl⟩
set_option maxRecDepth 100000 in
theorem lk28_2 : xAt kT28 2 (.getfield 37) 5 := ⟨3, rfl, Or.inr rfl, rfl⟩
set_option maxRecDepth 100000 in
theorem lk28_5 : xAt kT28 5 (.iconst 1) 6 := ⟨1, rfl, Or.inr rfl, rfl⟩
set_option maxRecDepth 100000 in
theorem lk28_6 : xAt kT28 6 (.iadd) 7 := ⟨1, rfl, Or.inr rfl, rfl⟩
set_option maxRecDepth 100000 in
theorem lk28_7 : xAt kT28 7 (.putfield 37) 10 := ⟨3, rfl, Or.inr rfl, rfl⟩
set_option maxRecDepth 100000 in
theorem lk28_10 : xAt kT28 10 (.aload_n 0) 11 := ⟨1, rfl, Or.inr rfl, rfl⟩
set_option maxRecDepth 100000 in
theorem lk28_11 : xAt kT28 11 (.getfield 37) 14 := ⟨3, rfl, Or.inr rfl, rfl⟩
set_option maxRecDepth 100000 in
theorem lk28_14 : xAt kT28 14 (.bipush 40) 16 := ⟨2, rfl, Or.inr rfl, rfl⟩
set_option maxRecDepth 100000 in
theorem lk28_16 : xAt kT28 16 (.if_icmp .le 8) 19 := ⟨3, rfl, Or.inr rfl, rfl⟩
set_option maxRecDepth 100000 in
theorem lk28_19 : xAt kT28 19 (.aload_n 0) 20 := ⟨1, rfl, Or.inr rfl, rfl⟩
set_option maxRecDepth 100000 in
theorem lk28_20 : xAt kT28 20 (.invokevirtual 62) 23 := ⟨3, rfl, Or.inr rfl, rfl⟩
set_option maxRecDepth 100000 in
theorem lk28_23 : xAt kT28 23 (.return_) 24 := ⟨1, rfl, Or.inr rfl, rfl⟩
set_option maxRecDepth 100000 in
theorem lk28_24 : xAt kT28 24 (.aload_n 0) 25 := ⟨1, rfl, Or.inr rfl, rfl⟩
set_option maxRecDepth 100000 in
theorem lk28_25 : xAt kT28 25 (.getfield 25) 28 := ⟨3, rfl, Or.inr rfl, rfl⟩
set_option maxRecDepth 100000 in
theorem lk28_28 : xAt kT28 28 (.invokevirtual 65) 31 := ⟨3, rfl, Or.inr rfl, rfl⟩
set_option maxRecDepth 100000 in
theorem lk28_31 : xAt kT28 31 (.astore_n 1) 32 := ⟨1, rfl, Or.inr rfl, rfl⟩
set_option maxRecDepth 100000 in
theorem lk28_32 : xAt kT28 32 (.aload_n 1) 33 := ⟨1, rfl, Or.inr rfl, rfl⟩
set_option maxRecDepth 100000 in
theorem lk28_33 : xAt kT28 33 (.aload_n 0) 34 := ⟨1, rfl, Or.inr rfl, rfl⟩
set_option maxRecDepth 100000 in
theorem lk28_34 : xAt kT28 34 (.getfield 22) 37 := ⟨3, rfl, Or.inr rfl, rfl⟩
set_option maxRecDepth 100000 in
theorem lk28_37 : xAt kT28 37 (.putfield 71) 40 := ⟨3, rfl, Or.inr rfl, rfl⟩
set_option maxRecDepth 100000 in
theorem lk28_40 : xAt kT28 40 (.aload_n 1) 41 := ⟨1, rfl, Or.inr rfl, rfl⟩
set_option maxRecDepth 100000 in
theorem lk28_41 : xAt kT28 41 (.aload_n 0) 42 := ⟨1, rfl, Or.inr rfl, rfl⟩
set_option maxRecDepth 100000 in
theorem lk28_42 : xAt kT28 42 (.getfield 76) 45 := ⟨3, rfl, Or.inr rfl, rfl⟩
set_option maxRecDepth 100000 in
theorem lk28_45 : xAt kT28 45 (.putfield 79) 48 := ⟨3, rfl, Or.inr rfl, rfl⟩
set_option maxRecDepth 100000 in
theorem lk28_48 : xAt kT28 48 (.aload_n 1) 49 := ⟨1, rfl, Or.inr rfl, rfl⟩
set_option maxRecDepth 100000 in
theorem lk28_49 : xAt kT28 49 (.bipush 10) 51 := ⟨2, rfl, Or.inr rfl, rfl⟩
set_option maxRecDepth 100000 in
theorem lk28_51 : xAt kT28 51 (.putfield 82) 54 := ⟨3, rfl, Or.inr rfl, rfl⟩
set_option maxRecDepth 100000 in
theorem lk28_54 : xAt kT28 54 (.aload_n 1) 55 := ⟨1, rfl, Or.inr rfl, rfl⟩
set_option maxRecDepth 100000 in
theorem lk28_55 : xAt kT28 55 (.aload_n 0) 56 := ⟨1, rfl, Or.inr rfl, rfl⟩
set_option maxRecDepth 100000 in
theorem lk28_56 : xAt kT28 56 (.getfield 50) 59 := ⟨3, rfl, Or.inr rfl, rfl⟩
set_option maxRecDepth 100000 in
theorem lk28_59 : xAt kT28 59 (.putfield 85) 62 := ⟨3, rfl, Or.inr rfl, rfl⟩
set_option maxRecDepth 100000 in
theorem lk28_62 : xAt kT28 62 (.aload_n 1) 63 := ⟨1, rfl, Or.inr rfl, rfl⟩
set_option maxRecDepth 100000 in
theorem lk28_63 : xAt kT28 63 (.aload_n 0) 64 := ⟨1, rfl, Or.inr rfl, rfl⟩
set_option maxRecDepth 100000 in
theorem lk28_64 : xAt kT28 64 (.getfield 44) 67 := ⟨3, rfl, Or.inr rfl, rfl⟩
set_option maxRecDepth 100000 in
theorem lk28_67 : xAt kT28 67 (.ifCond .eq 7) 70 := ⟨3, rfl, Or.inr rfl, rfl⟩
set_option maxRecDepth 100000 in
theorem lk28_70 : xAt kT28 70 (.iconst 0) 71 := ⟨1, rfl, Or.inr rfl, rfl⟩
set_option maxRecDepth 100000 in
theorem lk28_71 : xAt kT28 71 (.goto 15) 74 := ⟨3, rfl, Or.inr rfl, rfl⟩
set_option maxRecDepth 100000 in
theorem lk28_74 : xAt kT28 74 (.aload_n 0) 75 := ⟨1, rfl, Or.inr rfl, rfl⟩
set_option maxRecDepth 100000 in
theorem lk28_75 : xAt kT28 75 (.invokevirtual 40) 78 := ⟨3, rfl, Or.inr rfl, rfl⟩
set_option maxRecDepth 100000 in
theorem lk28_78 : xAt kT28 78 (.ifCond .eq 7) 81 := ⟨3, rfl, Or.inr rfl, rfl⟩
set_option maxRecDepth 100000 in
theorem lk28_81 : xAt kT28 81 (.iconst 1) 82 := ⟨1, rfl, Or.inr rfl, rfl⟩
set_option maxRecDepth 100000 in
theorem lk28_82 : xAt kT28 82 (.goto 4) 85 := ⟨3, rfl, Or.inr rfl, rfl⟩
set_option maxRecDepth 100000 in
theorem lk28_85 : xAt kT28 85 (.iconst 2) 86 := ⟨1, rfl, Or.inr rfl, rfl⟩
set_option maxRecDepth 100000 in
theorem lk28_86 : xAt kT28 86 (.putfield 88) 89 := ⟨3, rfl, Or.inr rfl, rfl⟩
set_option maxRecDepth 100000 in
theorem lk28_89 : xAt kT28 89 (.aload_n 1) 90 := ⟨1, rfl, Or.inr rfl, rfl⟩
set_option maxRecDepth 100000 in
theorem lk28_90 : xAt kT28 90 (.aload_n 0) 91 := ⟨1, rfl, Or.inr rfl, rfl⟩
set_option maxRecDepth 100000 in
theorem lk28_91 : xAt kT28 91 (.getfield 44) 94 := ⟨3, rfl, Or.inr rfl, rfl⟩
set_option maxRecDepth 100000 in
theorem lk28_94 : xAt kT28 94 (.ifCond .eq 7) 97 := ⟨3, rfl, Or.inr rfl, rfl⟩
set_option maxRecDepth 100000 in
theorem lk28_97 : xAt kT28 97 (.iconst 0) 98 := ⟨1, rfl, Or.inr rfl, rfl⟩
set_option maxRecDepth 100000 in
theorem lk28_98 : xAt kT28 98 (.goto 7) 101 := ⟨3, rfl, Or.inr rfl, rfl⟩
set_option maxRecDepth 100000 in
theorem lk28_101 : xAt kT28 101 (.aload_n 0) 102 := ⟨1, rfl, Or.inr rfl, rfl⟩
set_option maxRecDepth 100000 in
theorem lk28_102 : xAt kT28 102 (.getfield 9) 105 := ⟨3, rfl, Or.inr rfl, rfl⟩
set_option maxRecDepth 100000 in
theorem lk28_105 : xAt kT28 105 (.putfield 91) 108 := ⟨3, rfl, Or.inr rfl, rfl⟩
set_option maxRecDepth 100000 in
theorem lk28_108 : xAt kT28 108 (.aload_n 1) 109 := ⟨1, rfl, Or.inr rfl, rfl⟩
set_option maxRecDepth 100000 in
theorem lk28_109 : xAt kT28 109 (.aload_n 0) 110 := ⟨1, rfl, Or.inr rfl, rfl⟩
set_option maxRecDepth 100000 in
theorem lk28_110 : xAt kT28 110 (.getfield 44) 113 := ⟨3, rfl, Or.inr rfl, rfl⟩
set_option maxRecDepth 100000 in
theorem lk28_113 : xAt kT28 113 (.ifCond .eq 7) 116 := ⟨3, rfl, Or.inr rfl, rfl⟩
set_option maxRecDepth 100000 in
theorem lk28_116 : xAt kT28 116 (.iconst 0) 117 := ⟨1, rfl, Or.inr rfl, rfl⟩
set_option maxRecDepth 100000 in
theorem lk28_117 : xAt kT28 117 (.goto 7) 120 := ⟨3, rfl, Or.inr rfl, rfl⟩
set_option maxRecDepth 100000 in
theorem lk28_120 : xAt kT28 120 (.aload_n 0) 121 := ⟨1, rfl, Or.inr rfl, rfl⟩
set_option maxRecDepth 100000 in
theorem lk28_121 : xAt kT28 121 (.getfield 47) 124 := ⟨3, rfl, Or.inr rfl, rfl⟩
set_option maxRecDepth 100000 in
theorem lk28_124 : xAt kT28 124 (.putfield 92) 127 := ⟨3, rfl, Or.inr rfl, rfl⟩
set_option maxRecDepth 100000 in
theorem lk28_127 : xAt kT28 127 (.aload_n 1) 128 := ⟨1, rfl, Or.inr rfl, rfl⟩
set_option maxRecDepth 100000 in
theorem lk28_128 : xAt kT28 128 (.aload_n 0) 129 := ⟨1, rfl, Or.inr rfl, rfl⟩
set_option maxRecDepth 100000 in
theorem lk28_129 : xAt kT28 129 (.getfield 44) 132 := ⟨3, rfl, Or.inr rfl, rfl⟩
set_option maxRecDepth 100000 in
theorem lk28_132 : xAt kT28 132 (.ifCond .eq 7) 135 := ⟨3, rfl, Or.inr rfl, rfl⟩
set_option maxRecDepth 100000 in
theorem lk28_135 : xAt kT28 135 (.iconst (-1)) 136 := ⟨1, rfl, Or.inr rfl, rfl⟩
set_option maxRecDepth 100000 in
theorem lk28_136 : xAt kT28 136 (.goto 7) 139 := ⟨3, rfl, Or.inr rfl, rfl⟩
set_option maxRecDepth 100000 in
theorem lk28_139 : xAt kT28 139 (.aload_n 0) 140 := ⟨1, rfl, Or.inr rfl, rfl⟩
set_option maxRecDepth 100000 in
theorem lk28_140 : xAt kT28 140 (.getfield 15) 143 := ⟨3, rfl, Or.inr rfl, rfl⟩
set_option maxRecDepth 100000 in
theorem lk28_143 : xAt kT28 143 (.putfield 93) 146 := ⟨3, rfl, Or.inr rfl, rfl⟩
set_option maxRecDepth 100000 in
theorem lk28_146 : xAt kT28 146 (.aload_n 1) 147 := ⟨1, rfl, Or.inr rfl, rfl⟩
set_option maxRecDepth 100000 in
theorem lk28_147 : xAt kT28 147 (.aload_n 0) 148 := ⟨1, rfl, Or.inr rfl, rfl⟩
set_option maxRecDepth 100000 in
theorem lk28_148 : xAt kT28 148 (.getfield 44) 151 := ⟨3, rfl, Or.inr rfl, rfl⟩
set_option maxRecDepth 100000 in
theorem lk28_151 : xAt kT28 151 (.ifCond .eq 7) 154 := ⟨3, rfl, Or.inr rfl, rfl⟩
set_option maxRecDepth 100000 in
theorem lk28_154 : xAt kT28 154 (.iconst 2) 155 := ⟨1, rfl, Or.inr rfl, rfl⟩
set_option maxRecDepth 100000 in
theorem lk28_155 : xAt kT28 155 (.goto 19) 158 := ⟨3, rfl, Or.inr rfl, rfl⟩
set_option maxRecDepth 100000 in
theorem lk28_158 : xAt kT28 158 (.bipush 12) 160 := ⟨2, rfl, Or.inr rfl, rfl⟩
set_option maxRecDepth 100000 in
theorem lk28_160 : xAt kT28 160 (.aload_n 0) 161 := ⟨1, rfl, Or.inr rfl, rfl⟩
set_option maxRecDepth 100000 in
theorem lk28_161 : xAt kT28 161 (.getfield 29) 164 := ⟨3, rfl, Or.inr rfl, rfl⟩
set_option maxRecDepth 100000 in
theorem lk28_164 : xAt kT28 164 (.aload_n 0) 165 := ⟨1, rfl, Or.inr rfl, rfl⟩
set_option maxRecDepth 100000 in
theorem lk28_165 : xAt kT28 165 (.getfield 15) 168 := ⟨3, rfl, Or.inr rfl, rfl⟩
set_option maxRecDepth 100000 in
theorem lk28_168 : xAt kT28 168 (.bipush 9) 170 := ⟨2, rfl, Or.inr rfl, rfl⟩
set_option maxRecDepth 100000 in
theorem lk28_170 : xAt kT28 170 (.invokevirtual 58) 173 := ⟨3, rfl, Or.inr rfl, rfl⟩
set_option maxRecDepth 100000 in
theorem lk28_173 : xAt kT28 173 (.iadd) 174 := ⟨1, rfl, Or.inr rfl, rfl⟩
set_option maxRecDepth 100000 in
theorem lk28_174 : xAt kT28 174 (.putfield 94) 177 := ⟨3, rfl, Or.inr rfl, rfl⟩
set_option maxRecDepth 100000 in
theorem lk28_177 : xAt kT28 177 (.aload_n 1) 178 := ⟨1, rfl, Or.inr rfl, rfl⟩
set_option maxRecDepth 100000 in
theorem lk28_178 : xAt kT28 178 (.iconst 0) 179 := ⟨1, rfl, Or.inr rfl, rfl⟩
set_option maxRecDepth 100000 in
theorem lk28_179 : xAt kT28 179 (.putfield 97) 182 := ⟨3, rfl, Or.inr rfl, rfl⟩
set_option maxRecDepth 100000 in
theorem lk28_182 : xAt kT28 182 (.aload_n 0) 183 := ⟨1, rfl, Or.inr rfl, rfl⟩
set_option maxRecDepth 100000 in
theorem lk28_183 : xAt kT28 183 (.getfield 25) 186 := ⟨3, rfl, Or.inr rfl, rfl⟩
set_option maxRecDepth 100000 in
theorem lk28_186 : xAt kT28 186 (.aload_n 1) 187 := ⟨1, rfl, Or.inr rfl, rfl⟩
set_option maxRecDepth 100000 in
theorem lk28_187 : xAt kT28 187 (.invokevirtual 100) 190 := ⟨3, rfl, Or.inr rfl, rfl⟩
set_option maxRecDepth 100000 in
theorem lk28_190 : xAt kT28 190 (.aload_n 0) 191 := ⟨1, rfl, Or.inr rfl, rfl⟩
set_option maxRecDepth 100000 in
theorem lk28_191 : xAt kT28 191 (.bipush 60) 193 := ⟨2, rfl, Or.inr rfl, rfl⟩
set_option maxRecDepth 100000 in
theorem lk28_193 : xAt kT28 193 (.iconst 1) 194 := ⟨1, rfl, Or.inr rfl, rfl⟩
set_option maxRecDepth 100000 in
theorem lk28_194 : xAt kT28 194 (.invokevirtual 104) 197 := ⟨3, rfl, Or.inr rfl, rfl⟩
set_option maxRecDepth 100000 in
theorem lk28_197 : xAt kT28 197 (.return_) 198 := ⟨1, rfl, Or.inr rfl, rfl⟩
set_option maxRecDepth 100000 in
theorem lk21_0 : xAt kT21 0 (.aload_n 0) 1 := ⟨1, rfl, Or.inr rfl, rfl⟩
set_option maxRecDepth 100000 in
theorem lk21_1 : xAt kT21 1 (.iconst 1) 2 := ⟨1, rfl, Or.inr rfl, rfl⟩
set_option maxRecDepth 100000 in
theorem lk21_2 : xAt kT21 2 (.putfield 33) 5 := ⟨3, rfl, Or.inr rfl, rfl⟩
set_option maxRecDepth 100000 in
theorem lk21_5 : xAt kT21 5 (.aload_n 0) 6 := ⟨1, rfl, Or.inr rfl, rfl⟩
set_option maxRecDepth 100000 in
theorem lk21_6 : xAt kT21 6 (.iload_n 1) 7 := ⟨1, rfl, Or.inr rfl, rfl⟩
set_option maxRecDepth 100000 in
theorem lk21_7 : xAt kT21 7 (.putfield 15) 10 := ⟨3, rfl, Or.inr rfl, rfl⟩
set_option maxRecDepth 100000 in
theorem lk21_10 : xAt kT21 10 (.aload_n 0) 11 := ⟨1, rfl, Or.inr rfl, rfl⟩
set_option maxRecDepth 100000 in
theorem lk21_11 : xAt kT21 11 (.iconst 0) 12 := ⟨1, rfl, Or.inr rfl, rfl⟩
set_option maxRecDepth 100000 in
theorem lk21_12 : xAt kT21 12 (.putfield 37) 15 := ⟨3, rfl, Or.inr rfl, rfl⟩
set_option maxRecDepth 100000 in
theorem lk21_15 : xAt kT21 15 (.aload_n 0) 16 := ⟨1, rfl, Or.inr rfl, rfl⟩
set_option maxRecDepth 100000 in
theorem lk21_16 : xAt kT21 16 (.aload_n 0) 17 := ⟨1, rfl, Or.inr rfl, rfl⟩
set_option maxRecDepth 100000 in
theorem lk21_17 : xAt kT21 17 (.invokevirtual 40) 20 := ⟨3, rfl, Or.inr rfl, rfl⟩
set_option maxRecDepth 100000 in
theorem lk21_20 : xAt kT21 20 (.ifCond .eq 15) 23 := ⟨3, rfl, Or.inr rfl, rfl⟩
set_option maxRecDepth 100000 in
theorem lk21_23 : xAt kT21 23 (.aload_n 0) 24 := ⟨1, rfl, Or.inr rfl, rfl⟩
set_option maxRecDepth 100000 in
theorem lk21_24 : xAt kT21 24 (.getfield 9) 27 := ⟨3, rfl, Or.inr rfl, rfl⟩
set_option maxRecDepth 100000 in
theorem lk21_27 : xAt kT21 27 (.iconst (-1)) 28 := ⟨1, rfl, Or.inr rfl, rfl⟩
set_option maxRecDepth 100000 in
theorem lk21_28 : xAt kT21 28 (.if_icmp .ne 7) 31 := ⟨3, rfl, Or.inr rfl, rfl⟩
set_option maxRecDepth 100000 in
theorem lk21_31 : xAt kT21 31 (.iconst 1) 32 := ⟨1, rfl, Or.inr rfl, rfl⟩
set_option maxRecDepth 100000 in
theorem lk21_32 : xAt kT21 32 (.goto 4) 35 := ⟨3, rfl, Or.inr rfl, rfl⟩
set_option maxRecDepth 100000 in
theorem lk21_35 : xAt kT21 35 (.iconst 0) 36 := ⟨1, rfl, Or.inr rfl, rfl⟩
set_option maxRecDepth 100000 in
theorem lk21_36 : xAt kT21 36 (.putfield 44) 39 := ⟨3, rfl, Or.inr rfl, rfl⟩
set_option maxRecDepth 100000 in
theorem lk21_39 : xAt kT21 39 (.aload_n 0) 40 := ⟨1, rfl, Or.inr rfl, rfl⟩
set_option maxRecDepth 100000 in
theorem lk21_40 : xAt kT21 40 (.invokevirtual 40) 43 := ⟨3, rfl, Or.inr rfl, rfl⟩
set_option maxRecDepth 100000 in
theorem lk21_43 : xAt kT21 43 (.ifCond .eq 20) 46 := ⟨3, rfl, Or.inr rfl, rfl⟩
set_option maxRecDepth 100000 in
theorem lk21_46 : xAt kT21 46 (.aload_n 0) 47 := ⟨1, rfl, Or.inr rfl, rfl⟩
set_option maxRecDepth 100000 in
theorem lk21_47 : xAt kT21 47 (.getfield 44) 50 := ⟨3, rfl, Or.inr rfl, rfl⟩
set_option maxRecDepth 100000 in
theorem lk21_50 : xAt kT21 50 (.ifCond .ne 13) 53 := ⟨3, rfl, Or.inr rfl, rfl⟩
set_option maxRecDepth 100000 in
theorem lk21_53 : xAt kT21 53 (.aload_n 0) 54 := ⟨1, rfl, Or.inr rfl, rfl⟩
set_option maxRecDepth 100000 in
theorem lk21_54 : xAt kT21 54 (.dup) 55 := ⟨1, rfl, Or.inr rfl, rfl⟩
set_option maxRecDepth 100000 in
theorem lk21_55 : xAt kT21 55 (.getfield 47) 58 := ⟨3, rfl, Or.inr rfl, rfl⟩
set_option maxRecDepth 100000 in
theorem lk21_58 : xAt kT21 58 (.iconst 1) 59 := ⟨1, rfl, Or.inr rfl, rfl⟩
set_option maxRecDepth 100000 in
theorem lk21_59 : xAt kT21 59 (.iadd) 60 := ⟨1, rfl, Or.inr rfl, rfl⟩
set_option maxRecDepth 100000 in
theorem lk21_60 : xAt kT21 60 (.putfield 47) 63 := ⟨3, rfl, Or.inr rfl, rfl⟩
set_option maxRecDepth 100000 in
theorem lk21_63 : xAt kT21 63 (.aload_n 0) 64 := ⟨1, rfl, Or.inr rfl, rfl⟩
set_option maxRecDepth 100000 in
theorem lk21_64 : xAt kT21 64 (.dup) 65 := ⟨1, rfl, Or.inr rfl, rfl⟩
set_option maxRecDepth 100000 in
theorem lk21_65 : xAt kT21 65 (.getfield 50) 68 := ⟨3, rfl, Or.inr rfl, rfl⟩
set_option maxRecDepth 100000 in
theorem lk21_68 : xAt kT21 68 (.iconst 1) 69 := ⟨1, rfl, Or.inr rfl, rfl⟩
set_option maxRecDepth 100000 in
theorem lk21_69 : xAt kT21 69 (.iadd) 70 := ⟨1, rfl, Or.inr rfl, rfl⟩
set_option maxRecDepth 100000 in
theorem lk21_70 : xAt kT21 70 (.putfield 50) 73 := ⟨3, rfl, Or.inr rfl, rfl⟩
set_option maxRecDepth 100000 in
theorem lk21_73 : xAt kT21 73 (.aload_n 0) 74 := ⟨1, rfl, Or.inr rfl, rfl⟩
set_option maxRecDepth 100000 in
theorem lk21_74 : xAt kT21 74 (.invokevirtual 53) 77 := ⟨3, rfl, Or.inr rfl, rfl⟩
set_option maxRecDepth 100000 in
theorem lk21_77 : xAt kT21 77 (.return_) 78 := ⟨1, rfl, Or.inr rfl, rfl⟩
set_option maxRecDepth 100000 in
theorem lk30_0 : xAt kT30 0 (.aload_n 0) 1 := ⟨1, rfl, Or.inr rfl, rfl⟩
set_option maxRecDepth 100000 in
theorem lk30_1 : xAt kT30 1 (.aload_n 0) 2 := ⟨1, rfl, Or.inr rfl, rfl⟩
set_option maxRecDepth 100000 in
theorem lk30_2 : xAt kT30 2 (.getfield 76) 5 := ⟨3, rfl, Or.inr rfl, rfl⟩
set_option maxRecDepth 100000 in
theorem lk30_5 : xAt kT30 5 (.iconst 1) 6 := ⟨1, rfl, Or.inr rfl, rfl⟩
set_option maxRecDepth 100000 in
theorem lk30_6 : xAt kT30 6 (.iadd) 7 := ⟨1, rfl, Or.inr rfl, rfl⟩
set_option maxRecDepth 100000 in
theorem lk30_7 : xAt kT30 7 (.bipush 7) 9 := ⟨2, rfl, Or.inr rfl, rfl⟩
set_option maxRecDepth 100000 in
theorem lk30_9 : xAt kT30 9 (.if_icmp .ge 12) 12 := ⟨3, rfl, Or.inr rfl, rfl⟩
set_option maxRecDepth 100000 in
theorem lk30_12 : xAt kT30 12 (.aload_n 0) 13 := ⟨1, rfl, Or.inr rfl, rfl⟩
set_option maxRecDepth 100000 in
theorem lk30_13 : xAt kT30 13 (.getfield 76) 16 := ⟨3, rfl, Or.inr rfl, rfl⟩
set_option maxRecDepth 100000 in
theorem lk30_16 : xAt kT30 16 (.iconst 1) 17 := ⟨1, rfl, Or.inr rfl, rfl⟩
set_option maxRecDepth 100000 in
theorem lk30_17 : xAt kT30 17 (.iadd) 18 := ⟨1, rfl, Or.inr rfl, rfl⟩
set_option maxRecDepth 100000 in
theorem lk30_18 : xAt kT30 18 (.goto 4) 21 := ⟨3, rfl, Or.inr rfl, rfl⟩
set_option maxRecDepth 100000 in
theorem lk30_21 : xAt kT30 21 (.iconst 0) 22 := ⟨1, rfl, Or.inr rfl, rfl⟩
set_option maxRecDepth 100000 in
theorem lk30_22 : xAt kT30 22 (.putfield 76) 25 := ⟨3, rfl, Or.inr rfl, rfl⟩
set_option maxRecDepth 100000 in
theorem lk30_25 : xAt kT30 25 (.return_) 26 := ⟨1, rfl, Or.inr rfl, rfl⟩
set_option maxRecDepth 100000 in
theorem lk25_0 : xAt kT25 0 (.iload_n 1) 1 := ⟨1, rfl, Or.inr rfl, rfl⟩
set_option maxRecDepth 100000 in
theorem lk25_1 : xAt kT25 1 (.ifCond .lt 21) 4 := ⟨3, rfl, Or.inr rfl, rfl⟩
set_option maxRecDepth 100000 in
theorem lk25_4 : xAt kT25 4 (.iload_n 1) 5 := ⟨1, rfl, Or.inr rfl, rfl⟩
set_option maxRecDepth 100000 in
theorem lk25_5 : xAt kT25 5 (.bipush 7) 7 := ⟨2, rfl, Or.inr rfl, rfl⟩
set_option maxRecDepth 100000 in
theorem lk25_7 : xAt kT25 7 (.if_icmp .ge 15) 10 := ⟨3, rfl, Or.inr rfl, rfl⟩
set_option maxRecDepth 100000 in
theorem lk25_10 : xAt kT25 10 (.aload_n 0) 11 := ⟨1, rfl, Or.inr rfl, rfl⟩
set_option maxRecDepth 100000 in
theorem lk25_11 : xAt kT25 11 (.iload_n 1) 12 := ⟨1, rfl, Or.inr rfl, rfl⟩
set_option maxRecDepth 100000 in
theorem lk25_12 : xAt kT25 12 (.putfield 76) 15 := ⟨3, rfl, Or.inr rfl, rfl⟩
set_option maxRecDepth 100000 in
theorem lk25_15 : xAt kT25 15 (.aload_n 0) 16 := ⟨1, rfl, Or.inr rfl, rfl⟩
set_option maxRecDepth 100000 in
theorem lk25_16 : xAt kT25 16 (.invokevirtual 53) 19 := ⟨3, rfl, Or.inr rfl, rfl⟩
set_option maxRecDepth 100000 in
theorem lk25_19 : xAt kT25 19 (.goto 13) 22 := ⟨3, rfl, Or.inr rfl, rfl⟩
set_option maxRecDepth 100000 in
theorem lk25_22 : xAt kT25 22 (.aload_n 0) 23 := ⟨1, rfl, Or.inr rfl, rfl⟩
set_option maxRecDepth 100000 in
theorem lk25_23 : xAt kT25 23 (.invokevirtual 118) 26 := ⟨3, rfl, Or.inr rfl, rfl⟩
set_option maxRecDepth 100000 in
theorem lk25_26 : xAt kT25 26 (.aload_n 0) 27 := ⟨1, rfl, Or.inr rfl, rfl⟩
set_option maxRecDepth 100000 in
theorem lk25_27 : xAt kT25 27 (.iconst 5) 28 := ⟨1, rfl, Or.inr rfl, rfl⟩
set_option maxRecDepth 100000 in
theorem lk25_28 : xAt kT25 28 (.iconst 0) 29 := ⟨1, rfl, Or.inr rfl, rfl⟩
set_option maxRecDepth 100000 in
theorem lk25_29 : xAt kT25 29 (.invokevirtual 104) 32 := ⟨3, rfl, Or.inr rfl, rfl⟩
set_option maxRecDepth 100000 in
theorem lk25_32 : xAt kT25 32 (.return_) 33 := ⟨1, rfl, Or.inr rfl, rfl⟩
set_option maxRecDepth 100000 in
theorem lk24_0 : xAt kT24 0 (.aload_n 0) 1 := ⟨1, rfl, Or.inr rfl, rfl⟩
set_option maxRecDepth 100000 in
theorem lk24_1 : xAt kT24 1 (.getfield 44) 4 := ⟨3, rfl, Or.inr rfl, rfl⟩
set_option maxRecDepth 100000 in
theorem lk24_4 : xAt kT24 4 (.ifCond .eq 36) 7 := ⟨3, rfl, Or.inr rfl, rfl⟩
set_option maxRecDepth 100000 in
theorem lk24_7 : xAt kT24 7 (.aload_n 0) 8 := ⟨1, rfl, Or.inr rfl, rfl⟩
set_option maxRecDepth 100000 in
theorem lk24_8 : xAt kT24 8 (.iconst 0) 9 := ⟨1, rfl, Or.inr rfl, rfl⟩
set_option maxRecDepth 100000 in
theorem lk24_9 : xAt kT24 9 (.putfield 44) 12 := ⟨3, rfl, Or.inr rfl, rfl⟩
set_option maxRecDepth 100000 in
theorem lk24_12 : xAt kT24 12 (.aload_n 0) 13 := ⟨1, rfl, Or.inr rfl, rfl⟩
set_option maxRecDepth 100000 in
theorem lk24_13 : xAt kT24 13 (.aload_n 1) 14 := ⟨1, rfl, Or.inr rfl, rfl⟩
set_option maxRecDepth 100000 in
theorem lk24_14 : xAt kT24 14 (.getfield 124) 17 := ⟨3, rfl, Or.inr rfl, rfl⟩
set_option maxRecDepth 100000 in
theorem lk24_17 : xAt kT24 17 (.putfield 9) 20 := ⟨3, rfl, Or.inr rfl, rfl⟩
set_option maxRecDepth 100000 in
theorem lk24_20 : xAt kT24 20 (.aload_n 0) 21 := ⟨1, rfl, Or.inr rfl, rfl⟩
set_option maxRecDepth 100000 in
theorem lk24_21 : xAt kT24 21 (.iconst 1) 22 := ⟨1, rfl, Or.inr rfl, rfl⟩
set_option maxRecDepth 100000 in
theorem lk24_22 : xAt kT24 22 (.putfield 47) 25 := ⟨3, rfl, Or.inr rfl, rfl⟩
set_option maxRecDepth 100000 in
theorem lk24_25 : xAt kT24 25 (.aload_n 0) 26 := ⟨1, rfl, Or.inr rfl, rfl⟩
set_option maxRecDepth 100000 in
theorem lk24_26 : xAt kT24 26 (.dup) 27 := ⟨1, rfl, Or.inr rfl, rfl⟩
set_option maxRecDepth 100000 in
theorem lk24_27 : xAt kT24 27 (.getfield 50) 30 := ⟨3, rfl, Or.inr rfl, rfl⟩
set_option maxRecDepth 100000 in
theorem lk24_30 : xAt kT24 30 (.iconst 1) 31 := ⟨1, rfl, Or.inr rfl, rfl⟩
set_option maxRecDepth 100000 in
theorem lk24_31 : xAt kT24 31 (.iadd) 32 := ⟨1, rfl, Or.inr rfl, rfl⟩
set_option maxRecDepth 100000 in
theorem lk24_32 : xAt kT24 32 (.putfield 50) 35 := ⟨3, rfl, Or.inr rfl, rfl⟩
set_option maxRecDepth 100000 in
theorem lk24_35 : xAt kT24 35 (.aload_n 0) 36 := ⟨1, rfl, Or.inr rfl, rfl⟩
set_option maxRecDepth 100000 in
theorem lk24_36 : xAt kT24 36 (.invokevirtual 53) 39 := ⟨3, rfl, Or.inr rfl, rfl⟩
set_option maxRecDepth 100000 in
theorem lk24_39 : xAt kT24 39 (.return_) 40 := ⟨1, rfl, Or.inr rfl, rfl⟩
set_option maxRecDepth 100000 in
theorem lk24_40 : xAt kT24 40 (.aload_n 0) 41 := ⟨1, rfl, Or.inr rfl, rfl⟩
set_option maxRecDepth 100000 in
theorem lk24_41 : xAt kT24 41 (.aload_n 1) 42 := ⟨1, rfl, Or.inr rfl, rfl⟩
set_option maxRecDepth 100000 in
theorem lk24_42 : xAt kT24 42 (.getfield 97) 45 := ⟨3, rfl, Or.inr rfl, rfl⟩
set_option maxRecDepth 100000 in
theorem lk24_45 : xAt kT24 45 (.aload_n 0) 46 := ⟨1, rfl, Or.inr rfl, rfl⟩
set_option maxRecDepth 100000 in
theorem lk24_46 : xAt kT24 46 (.getfield 18) 49 := ⟨3, rfl, Or.inr rfl, rfl⟩
set_option maxRecDepth 100000 in
theorem lk24_49 : xAt kT24 49 (.arraylength) 50 := ⟨1, rfl, Or.inr rfl, rfl⟩
set_option maxRecDepth 100000 in
theorem lk24_50 : xAt kT24 50 (.invokestatic 131) 53 := ⟨3, rfl, Or.inr rfl, rfl⟩
set_option maxRecDepth 100000 in
theorem lk24_53 : xAt kT24 53 (.putfield 136) 56 := ⟨3, rfl, Or.inr rfl, rfl⟩
set_option maxRecDepth 100000 in
theorem lk24_56 : xAt kT24 56 (.aload_n 1) 57 := ⟨1, rfl, Or.inr rfl, rfl⟩
set_option maxRecDepth 100000 in
theorem lk24_57 : xAt kT24 57 (.getfield 139) 60 := ⟨3, rfl, Or.inr rfl, rfl⟩
set_option maxRecDepth 100000 in
theorem lk24_60 : xAt kT24 60 (.iconst 0) 61 := ⟨1, rfl, Or.inr rfl, rfl⟩
set_option maxRecDepth 100000 in
theorem lk24_61 : xAt kT24 61 (.aload_n 0) 62 := ⟨1, rfl, Or.inr rfl, rfl⟩
set_option maxRecDepth 100000 in
theorem lk24_62 : xAt kT24 62 (.getfield 18) 65 := ⟨3, rfl, Or.inr rfl, rfl⟩
set_option maxRecDepth 100000 in
theorem lk24_65 : xAt kT24 65 (.iconst 0) 66 := ⟨1, rfl, Or.inr rfl, rfl⟩
set_option maxRecDepth 100000 in
theorem lk24_66 : xAt kT24 66 (.aload_n 0) 67 := ⟨1, rfl, Or.inr rfl, rfl⟩
set_option maxRecDepth 100000 in
theorem lk24_67 : xAt kT24 67 (.getfield 136) 70 := ⟨3, rfl, Or.inr rfl, rfl⟩
set_option maxRecDepth 100000 in
theorem lk24_70 : xAt kT24 70 (.invokestatic 142) 73 := ⟨3, rfl, Or.inr rfl, rfl⟩
set_option maxRecDepth 100000 in
theorem lk24_73 : xAt kT24 73 (.aload_n 0) 74 := ⟨1, rfl, Or.inr rfl, rfl⟩
set_option maxRecDepth 100000 in
theorem lk24_74 : xAt kT24 74 (.iconst 1) 75 := ⟨1, rfl, Or.inr rfl, rfl⟩
set_option maxRecDepth 100000 in
theorem lk24_75 : xAt kT24 75 (.aload_n 1) 76 := ⟨1, rfl, Or.inr rfl, rfl⟩
set_option maxRecDepth 100000 in
theorem lk24_76 : xAt kT24 76 (.getfield 124) 79 := ⟨3, rfl, Or.inr rfl, rfl⟩
set_option maxRecDepth 100000 in
theorem lk24_79 : xAt kT24 79 (.invokevirtual 148) 82 := ⟨3, rfl, Or.inr rfl, rfl⟩
set_option maxRecDepth 100000 in
theorem lk24_82 : xAt kT24 82 (.return_) 83 := ⟨1, rfl, Or.inr rfl, rfl⟩
set_option maxRecDepth 100000 in
theorem lk23_0 : xAt kT23 0 (.aload_n 0) 1 := ⟨1, rfl, Or.inr rfl, rfl⟩
set_option maxRecDepth 100000 in
theorem lk23_1 : xAt kT23 1 (.getfield 33) 4 := ⟨3, rfl, Or.inr rfl, rfl⟩
set_option maxRecDepth 100000 in
theorem lk23_4 : xAt kT23 4 (.ifCond .eq 14) 7 := ⟨3, rfl, Or.inr rfl, rfl⟩
set_option maxRecDepth 100000 in
theorem lk23_7 : xAt kT23 7 (.aload_n 1) 8 := ⟨1, rfl, Or.inr rfl, rfl⟩
set_option maxRecDepth 100000 in
theorem lk23_8 : xAt kT23 8 (.getfield 85) 11 := ⟨3, rfl, Or.inr rfl, rfl⟩
set_option maxRecDepth 100000 in
theorem lk23_11 : xAt kT23 11 (.aload_n 0) 12 := ⟨1, rfl, Or.inr rfl, rfl⟩
set_option maxRecDepth 100000 in
theorem lk23_12 : xAt kT23 12 (.getfield 50) 15 := ⟨3, rfl, Or.inr rfl, rfl⟩
set_option maxRecDepth 100000 in
theorem lk23_15 : xAt kT23 15 (.if_icmp .eq 4) 18 := ⟨3, rfl, Or.inr rfl, rfl⟩
set_option maxRecDepth 100000 in
theorem lk23_18 : xAt kT23 18 (.return_) 19 := ⟨1, rfl, Or.inr rfl, rfl⟩
set_option maxRecDepth 100000 in
theorem lk23_19 : xAt kT23 19 (.aload_n 1) 20 := ⟨1, rfl, Or.inr rfl, rfl⟩
set_option maxRecDepth 100000 in
theorem lk23_20 : xAt kT23 20 (.getfield 88) 23 := ⟨3, rfl, Or.inr rfl, rfl⟩
set_option maxRecDepth 100000 in
theorem lk23_23 : xAt kT23 23 (.tableswitch 51 0 2 #[25, 33, 44]) 48 := ⟨25, rfl, Or.inl rfl, rfl⟩
set_option maxRecDepth 100000 in
theorem lk23_48 : xAt kT23 48 (.aload_n 0) 49 := ⟨1, rfl, Or.inr rfl, rfl⟩
set_option maxRecDepth 100000 in
theorem lk23_49 : xAt kT23 49 (.aload_n 1) 50 := ⟨1, rfl, Or.inr rfl, rfl⟩
set_option maxRecDepth 100000 in
theorem lk23_50 : xAt kT23 50 (.invokevirtual 121) 53 := ⟨3, rfl, Or.inr rfl, rfl⟩
set_option maxRecDepth 100000 in
theorem lk23_53 : xAt kT23 53 (.goto 28) 56 := ⟨3, rfl, Or.inr rfl, rfl⟩
set_option maxRecDepth 100000 in
theorem lk23_56 : xAt kT23 56 (.aload_n 0) 57 := ⟨1, rfl, Or.inr rfl, rfl⟩
set_option maxRecDepth 100000 in
theorem lk23_57 : xAt kT23 57 (.aload_n 1) 58 := ⟨1, rfl, Or.inr rfl, rfl⟩
set_option maxRecDepth 100000 in
theorem lk23_58 : xAt kT23 58 (.getfield 124) 61 := ⟨3, rfl, Or.inr rfl, rfl⟩
set_option maxRecDepth 100000 in
theorem lk23_61 : xAt kT23 61 (.invokevirtual 127) 64 := ⟨3, rfl, Or.inr rfl, rfl⟩
set_option maxRecDepth 100000 in
theorem lk23_64 : xAt kT23 64 (.goto 17) 67 := ⟨3, rfl, Or.inr rfl, rfl⟩
set_option maxRecDepth 100000 in
theorem lk23_67 : xAt kT23 67 (.aload_n 0) 68 := ⟨1, rfl, Or.inr rfl, rfl⟩
set_option maxRecDepth 100000 in
theorem lk23_68 : xAt kT23 68 (.invokevirtual 62) 71 := ⟨3, rfl, Or.inr rfl, rfl⟩
set_option maxRecDepth 100000 in
theorem lk23_71 : xAt kT23 71 (.goto 10) 74 := ⟨3, rfl, Or.inr rfl, rfl⟩
set_option maxRecDepth 100000 in
theorem lk23_74 : xAt kT23 74 (.aload_n 0) 75 := ⟨1, rfl, Or.inr rfl, rfl⟩
set_option maxRecDepth 100000 in
theorem lk23_75 : xAt kT23 75 (.bipush 20) 77 := ⟨2, rfl, Or.inr rfl, rfl⟩
set_option maxRecDepth 100000 in
theorem lk23_77 : xAt kT23 77 (.iconst 0) 78 := ⟨1, rfl, Or.inr rfl, rfl⟩
set_option maxRecDepth 100000 in
theorem lk23_78 : xAt kT23 78 (.invokevirtual 104) 81 := ⟨3, rfl, Or.inr rfl, rfl⟩
set_option maxRecDepth 100000 in
theorem lk23_81 : xAt kT23 81 (.return_) 82 := ⟨1, rfl, Or.inr rfl, rfl⟩
set_option maxRecDepth 100000 in
theorem lk31_0 : xAt kT31 0 (.aload_n 0) 1 := ⟨1, rfl, Or.inr rfl, rfl⟩
set_option maxRecDepth 100000 in
theorem lk31_1 : xAt kT31 1 (.getfield 115) 4 := ⟨3, rfl, Or.inr rfl, rfl⟩
set_option maxRecDepth 100000 in
theorem lk31_4 : xAt kT31 4 (.ifCond .eq 7) 7 := ⟨3, rfl, Or.inr rfl, rfl⟩
set_option maxRecDepth 100000 in
theorem lk31_7 : xAt kT31 7 (.aload_n 0) 8 := ⟨1, rfl, Or.inr rfl, rfl⟩
set_option maxRecDepth 100000 in
theorem lk31_8 : xAt kT31 8 (.invokevirtual 118) 11 := ⟨3, rfl, Or.inr rfl, rfl⟩
set_option maxRecDepth 100000 in
theorem lk31_11 : xAt kT31 11 (.aload_n 0) 12 := ⟨1, rfl, Or.inr rfl, rfl⟩
set_option maxRecDepth 100000 in
theorem lk31_12 : xAt kT31 12 (.invokevirtual 53) 15 := ⟨3, rfl, Or.inr rfl, rfl⟩
set_option maxRecDepth 100000 in
theorem lk31_15 : xAt kT31 15 (.return_) 16 := ⟨1, rfl, Or.inr rfl, rfl⟩
set_option maxRecDepth 100000 in
theorem lk112_0 : xAt kT112 0 (.aload_n 0) 1 := ⟨1, rfl, Or.inr rfl, rfl⟩
set_option maxRecDepth 100000 in
theorem lk112_1 : xAt kT112 1 (.iconst 0) 2 := ⟨1, rfl, Or.inr rfl, rfl⟩
set_option maxRecDepth 100000 in
theorem lk112_2 : xAt kT112 2 (.putfield 22) 5 := ⟨3, rfl, Or.inr rfl, rfl⟩
set_option maxRecDepth 100000 in
theorem lk112_5 : xAt kT112 5 (.aload_n 0) 6 := ⟨1, rfl, Or.inr rfl, rfl⟩
set_option maxRecDepth 100000 in
theorem lk112_6 : xAt kT112 6 (.iconst 0) 7 := ⟨1, rfl, Or.inr rfl, rfl⟩
set_option maxRecDepth 100000 in
theorem lk112_7 : xAt kT112 7 (.putfield 26) 10 := ⟨3, rfl, Or.inr rfl, rfl⟩
set_option maxRecDepth 100000 in
theorem lk112_10 : xAt kT112 10 (.aload_n 0) 11 := ⟨1, rfl, Or.inr rfl, rfl⟩
set_option maxRecDepth 100000 in
theorem lk112_11 : xAt kT112 11 (.iconst 0) 12 := ⟨1, rfl, Or.inr rfl, rfl⟩
set_option maxRecDepth 100000 in
theorem lk112_12 : xAt kT112 12 (.putfield 39) 15 := ⟨3, rfl, Or.inr rfl, rfl⟩
set_option maxRecDepth 100000 in
theorem lk112_15 : xAt kT112 15 (.return_) 16 := ⟨1, rfl, Or.inr rfl, rfl⟩
set_option maxRecDepth 100000 in
theorem lk107_0 : xAt kT107 0 (.iload_n 1) 1 := ⟨1, rfl, Or.inr rfl, rfl⟩
set_option maxRecDepth 100000 in
theorem lk107_1 : xAt kT107 1 (.ifCond .le 22) 4 := ⟨3, rfl, Or.inr rfl, rfl⟩
set_option maxRecDepth 100000 in
theorem lk107_4 : xAt kT107 4 (.iload_n 1) 5 := ⟨1, rfl, Or.inr rfl, rfl⟩
set_option maxRecDepth 100000 in
theorem lk107_5 : xAt kT107 5 (.aload_n 0) 6 := ⟨1, rfl, Or.inr rfl, rfl⟩
set_option maxRecDepth 100000 in
theorem lk107_6 : xAt kT107 6 (.getfield 39) 9 := ⟨3, rfl, Or.inr rfl, rfl⟩
set_option maxRecDepth 100000 in
theorem lk107_9 : xAt kT107 9 (.if_icmp .gt 14) 12 := ⟨3, rfl, Or.inr rfl, rfl⟩
set_option maxRecDepth 100000 in
theorem lk107_12 : xAt kT107 12 (.aload_n 0) 13 := ⟨1, rfl, Or.inr rfl, rfl⟩
set_option maxRecDepth 100000 in
theorem lk107_13 : xAt kT107 13 (.getfield 15) 16 := ⟨3, rfl, Or.inr rfl, rfl⟩
set_option maxRecDepth 100000 in
theorem lk107_16 : xAt kT107 16 (.iload_n 1) 17 := ⟨1, rfl, Or.inr rfl, rfl⟩
set_option maxRecDepth 100000 in
theorem lk107_17 : xAt kT107 17 (.iconst 1) 18 := ⟨1, rfl, Or.inr rfl, rfl⟩
set_option maxRecDepth 100000 in
theorem lk107_18 : xAt kT107 18 (.isub) 19 := ⟨1, rfl, Or.inr rfl, rfl⟩
set_option maxRecDepth 100000 in
theorem lk107_19 : xAt kT107 19 (.iaload) 20 := ⟨1, rfl, Or.inr rfl, rfl⟩
set_option maxRecDepth 100000 in
theorem lk107_20 : xAt kT107 20 (.goto 5) 23 := ⟨3, rfl, Or.inr rfl, rfl⟩
set_option maxRecDepth 100000 in
theorem lk107_23 : xAt kT107 23 (.bipush 24) 25 := ⟨2, rfl, Or.inr rfl, rfl⟩
set_option maxRecDepth 100000 in
theorem lk107_25 : xAt kT107 25 (.ireturn) 26 := ⟨1, rfl, Or.inr rfl, rfl⟩
set_option maxRecDepth 100000 in
theorem lk106_0 : xAt kT106 0 (.aload_n 0) 1 := ⟨1, rfl, Or.inr rfl, rfl⟩
set_option maxRecDepth 100000 in
theorem lk106_1 : xAt kT106 1 (.getfield 26) 4 := ⟨3, rfl, Or.inr rfl, rfl⟩
set_option maxRecDepth 100000 in
theorem lk106_4 : xAt kT106 4 (.iload_n 1) 5 := ⟨1, rfl, Or.inr rfl, rfl⟩
set_option maxRecDepth 100000 in
theorem lk106_5 : xAt kT106 5 (.if_icmp .le 43) 8 := ⟨3, rfl, Or.inr rfl, rfl⟩
set_option maxRecDepth 100000 in
theorem lk106_8 : xAt kT106 8 (.aload_n 0) 9 := ⟨1, rfl, Or.inr rfl, rfl⟩
set_option maxRecDepth 100000 in
theorem lk106_9 : xAt kT106 9 (.iload_n 1) 10 := ⟨1, rfl, Or.inr rfl, rfl⟩
set_option maxRecDepth 100000 in
theorem lk106_10 : xAt kT106 10 (.putfield 26) 13 := ⟨3, rfl, Or.inr rfl, rfl⟩
set_option maxRecDepth 100000 in
theorem lk106_13 : xAt kT106 13 (.aload_n 0) 14 := ⟨1, rfl, Or.inr rfl, rfl⟩
set_option maxRecDepth 100000 in
theorem lk106_14 : xAt kT106 14 (.getfield 39) 17 := ⟨3, rfl, Or.inr rfl, rfl⟩
set_option maxRecDepth 100000 in
theorem lk106_17 : xAt kT106 17 (.ifCond .le 31) 20 := ⟨3, rfl, Or.inr rfl, rfl⟩
set_option maxRecDepth 100000 in
theorem lk106_20 : xAt kT106 20 (.aload_n 0) 21 := ⟨1, rfl, Or.inr rfl, rfl⟩
set_option maxRecDepth 100000 in
theorem lk106_21 : xAt kT106 21 (.getfield 15) 24 := ⟨3, rfl, Or.inr rfl, rfl⟩
set_option maxRecDepth 100000 in
theorem lk106_24 : xAt kT106 24 (.aload_n 0) 25 := ⟨1, rfl, Or.inr rfl, rfl⟩
set_option maxRecDepth 100000 in
theorem lk106_25 : xAt kT106 25 (.getfield 39) 28 := ⟨3, rfl, Or.inr rfl, rfl⟩
set_option maxRecDepth 100000 in
theorem lk106_28 : xAt kT106 28 (.iconst 1) 29 := ⟨1, rfl, Or.inr rfl, rfl⟩
set_option maxRecDepth 100000 in
theorem lk106_29 : xAt kT106 29 (.isub) 30 := ⟨1, rfl, Or.inr rfl, rfl⟩
set_option maxRecDepth 100000 in
theorem lk106_30 : xAt kT106 30 (.iaload) 31 := ⟨1, rfl, Or.inr rfl, rfl⟩
set_option maxRecDepth 100000 in
theorem lk106_31 : xAt kT106 31 (.iload_n 1) 32 := ⟨1, rfl, Or.inr rfl, rfl⟩
set_option maxRecDepth 100000 in
theorem lk106_32 : xAt kT106 32 (.if_icmp .le 16) 35 := ⟨3, rfl, Or.inr rfl, rfl⟩
set_option maxRecDepth 100000 in
theorem lk106_35 : xAt kT106 35 (.aload_n 0) 36 := ⟨1, rfl, Or.inr rfl, rfl⟩
set_option maxRecDepth 100000 in
theorem lk106_36 : xAt kT106 36 (.dup) 37 := ⟨1, rfl, Or.inr rfl, rfl⟩
set_option maxRecDepth 100000 in
theorem lk106_37 : xAt kT106 37 (.getfield 39) 40 := ⟨3, rfl, Or.inr rfl, rfl⟩
set_option maxRecDepth 100000 in
theorem lk106_40 : xAt kT106 40 (.iconst 1) 41 := ⟨1, rfl, Or.inr rfl, rfl⟩
set_option maxRecDepth 100000 in
theorem lk106_41 : xAt kT106 41 (.isub) 42 := ⟨1, rfl, Or.inr rfl, rfl⟩
set_option maxRecDepth 100000 in
theorem lk106_42 : xAt kT106 42 (.putfield 39) 45 := ⟨3, rfl, Or.inr rfl, rfl⟩
set_option maxRecDepth 100000 in
theorem lk106_45 : xAt kT106 45 (.goto (-32)) 48 := ⟨3, rfl, Or.inr rfl, rfl⟩
set_option maxRecDepth 100000 in
theorem lk106_48 : xAt kT106 48 (.return_) 49 := ⟨1, rfl, Or.inr rfl, rfl⟩
set_option maxRecDepth 100000 in
theorem lk110_0 : xAt kT110 0 (.aload_n 0) 1 := ⟨1, rfl, Or.inr rfl, rfl⟩
set_option maxRecDepth 100000 in
theorem lk110_1 : xAt kT110 1 (.getfield 15) 4 := ⟨3, rfl, Or.inr rfl, rfl⟩
set_option maxRecDepth 100000 in
theorem lk110_4 : xAt kT110 4 (.arraylength) 5 := ⟨1, rfl, Or.inr rfl, rfl⟩
set_option maxRecDepth 100000 in
theorem lk110_5 : xAt kT110 5 (.iload_n 1) 6 := ⟨1, rfl, Or.inr rfl, rfl⟩
set_option maxRecDepth 100000 in
theorem lk110_6 : xAt kT110 6 (.if_icmp .ge 39) 9 := ⟨3, rfl, Or.inr rfl, rfl⟩
set_option maxRecDepth 100000 in
theorem lk110_9 : xAt kT110 9 (.bipush 16) 11 := ⟨2, rfl, Or.inr rfl, rfl⟩
set_option maxRecDepth 100000 in
theorem lk110_11 : xAt kT110 11 (.iconst 2) 12 := ⟨1, rfl, Or.inr rfl, rfl⟩
set_option maxRecDepth 100000 in
theorem lk110_12 : xAt kT110 12 (.iload_n 1) 13 := ⟨1, rfl, Or.inr rfl, rfl⟩
set_option maxRecDepth 100000 in
theorem lk110_13 : xAt kT110 13 (.imul) 14 := ⟨1, rfl, Or.inr rfl, rfl⟩
set_option maxRecDepth 100000 in
theorem lk110_14 : xAt kT110 14 (.invokestatic 55) 17 := ⟨3, rfl, Or.inr rfl, rfl⟩
set_option maxRecDepth 100000 in
theorem lk110_17 : xAt kT110 17 (.istore_n 2) 18 := ⟨1, rfl, Or.inr rfl, rfl⟩
set_option maxRecDepth 100000 in
theorem lk110_18 : xAt kT110 18 (.aload_n 0) 19 := ⟨1, rfl, Or.inr rfl, rfl⟩
set_option maxRecDepth 100000 in
theorem lk110_19 : xAt kT110 19 (.aload_n 0) 20 := ⟨1, rfl, Or.inr rfl, rfl⟩
set_option maxRecDepth 100000 in
theorem lk110_20 : xAt kT110 20 (.getfield 15) 23 := ⟨3, rfl, Or.inr rfl, rfl⟩
set_option maxRecDepth 100000 in
theorem lk110_23 : xAt kT110 23 (.iload_n 2) 24 := ⟨1, rfl, Or.inr rfl, rfl⟩
set_option maxRecDepth 100000 in
theorem lk110_24 : xAt kT110 24 (.invokestatic 61) 27 := ⟨3, rfl, Or.inr rfl, rfl⟩
set_option maxRecDepth 100000 in
theorem lk110_27 : xAt kT110 27 (.putfield 15) 30 := ⟨3, rfl, Or.inr rfl, rfl⟩
set_option maxRecDepth 100000 in
theorem lk110_30 : xAt kT110 30 (.aload_n 0) 31 := ⟨1, rfl, Or.inr rfl, rfl⟩
set_option maxRecDepth 100000 in
theorem lk110_31 : xAt kT110 31 (.aload_n 0) 32 := ⟨1, rfl, Or.inr rfl, rfl⟩
set_option maxRecDepth 100000 in
theorem lk110_32 : xAt kT110 32 (.getfield 9) 35 := ⟨3, rfl, Or.inr rfl, rfl⟩
set_option maxRecDepth 100000 in
theorem lk110_35 : xAt kT110 35 (.iload_n 2) 36 := ⟨1, rfl, Or.inr rfl, rfl⟩
set_option maxRecDepth 100000 in
theorem lk110_36 : xAt kT110 36 (.bipush 6) 38 := ⟨2, rfl, Or.inr rfl, rfl⟩
set_option maxRecDepth 100000 in
theorem lk110_38 : xAt kT110 38 (.imul) 39 := ⟨1, rfl, Or.inr rfl, rfl⟩
set_option maxRecDepth 100000 in
theorem lk110_39 : xAt kT110 39 (.invokestatic 61) 42 := ⟨3, rfl, Or.inr rfl, rfl⟩
set_option maxRecDepth 100000 in
theorem lk110_42 : xAt kT110 42 (.putfield 9) 45 := ⟨3, rfl, Or.inr rfl, rfl⟩
set_option maxRecDepth 100000 in
theorem lk110_45 : xAt kT110 45 (.return_) 46 := ⟨1, rfl, Or.inr rfl, rfl⟩
set_option maxRecDepth 100000 in
theorem lk113_0 : xAt kT113 0 (.aload_n 0) 1 := ⟨1, rfl, Or.inr rfl, rfl⟩
set_option maxRecDepth 100000 in
theorem lk113_1 : xAt kT113 1 (.aload_n 1) 2 := ⟨1, rfl, Or.inr rfl, rfl⟩
set_option maxRecDepth 100000 in
theorem lk113_2 : xAt kT113 2 (.getfield 22) 5 := ⟨3, rfl, Or.inr rfl, rfl⟩
set_option maxRecDepth 100000 in
theorem lk113_5 : xAt kT113 5 (.putfield 22) 8 := ⟨3, rfl, Or.inr rfl, rfl⟩
set_option maxRecDepth 100000 in
theorem lk113_8 : xAt kT113 8 (.aload_n 0) 9 := ⟨1, rfl, Or.inr rfl, rfl⟩
set_option maxRecDepth 100000 in
theorem lk113_9 : xAt kT113 9 (.aload_n 1) 10 := ⟨1, rfl, Or.inr rfl, rfl⟩
set_option maxRecDepth 100000 in
theorem lk113_10 : xAt kT113 10 (.getfield 26) 13 := ⟨3, rfl, Or.inr rfl, rfl⟩
set_option maxRecDepth 100000 in
theorem lk113_13 : xAt kT113 13 (.putfield 26) 16 := ⟨3, rfl, Or.inr rfl, rfl⟩
set_option maxRecDepth 100000 in
theorem lk113_16 : xAt kT113 16 (.aload_n 0) 17 := ⟨1, rfl, Or.inr rfl, rfl⟩
set_option maxRecDepth 100000 in
theorem lk113_17 : xAt kT113 17 (.aload_n 1) 18 := ⟨1, rfl, Or.inr rfl, rfl⟩
set_option maxRecDepth 100000 in
theorem lk113_18 : xAt kT113 18 (.getfield 30) 21 := ⟨3, rfl, Or.inr rfl, rfl⟩
set_option maxRecDepth 100000 in
theorem lk113_21 : xAt kT113 21 (.putfield 30) 24 := ⟨3, rfl, Or.inr rfl, rfl⟩
set_option maxRecDepth 100000 in
theorem lk113_24 : xAt kT113 24 (.aload_n 0) 25 := ⟨1, rfl, Or.inr rfl, rfl⟩
set_option maxRecDepth 100000 in
theorem lk113_25 : xAt kT113 25 (.aload_n 1) 26 := ⟨1, rfl, Or.inr rfl, rfl⟩
set_option maxRecDepth 100000 in
theorem lk113_26 : xAt kT113 26 (.getfield 33) 29 := ⟨3, rfl, Or.inr rfl, rfl⟩
set_option maxRecDepth 100000 in
theorem lk113_29 : xAt kT113 29 (.putfield 33) 32 := ⟨3, rfl, Or.inr rfl, rfl⟩
set_option maxRecDepth 100000 in
theorem lk113_32 : xAt kT113 32 (.aload_n 0) 33 := ⟨1, rfl, Or.inr rfl, rfl⟩
set_option maxRecDepth 100000 in
theorem lk113_33 : xAt kT113 33 (.aload_n 1) 34 := ⟨1, rfl, Or.inr rfl, rfl⟩
set_option maxRecDepth 100000 in
theorem lk113_34 : xAt kT113 34 (.getfield 36) 37 := ⟨3, rfl, Or.inr rfl, rfl⟩
set_option maxRecDepth 100000 in
theorem lk113_37 : xAt kT113 37 (.putfield 36) 40 := ⟨3, rfl, Or.inr rfl, rfl⟩
set_option maxRecDepth 100000 in
theorem lk113_40 : xAt kT113 40 (.aload_n 0) 41 := ⟨1, rfl, Or.inr rfl, rfl⟩
set_option maxRecDepth 100000 in
theorem lk113_41 : xAt kT113 41 (.aload_n 1) 42 := ⟨1, rfl, Or.inr rfl, rfl⟩
set_option maxRecDepth 100000 in
theorem lk113_42 : xAt kT113 42 (.getfield 39) 45 := ⟨3, rfl, Or.inr rfl, rfl⟩
set_option maxRecDepth 100000 in
theorem lk113_45 : xAt kT113 45 (.invokevirtual 45) 48 := ⟨3, rfl, Or.inr rfl, rfl⟩
set_option maxRecDepth 100000 in
theorem lk113_48 : xAt kT113 48 (.aload_n 1) 49 := ⟨1, rfl, Or.inr rfl, rfl⟩
set_option maxRecDepth 100000 in
theorem lk113_49 : xAt kT113 49 (.getfield 39) 52 := ⟨3, rfl, Or.inr rfl, rfl⟩
set_option maxRecDepth 100000 in
theorem lk113_52 : xAt kT113 52 (.iload_n 2) 53 := ⟨1, rfl, Or.inr rfl, rfl⟩
set_option maxRecDepth 100000 in
theorem lk113_53 : xAt kT113 53 (.isub) 54 := ⟨1, rfl, Or.inr rfl, rfl⟩
set_option maxRecDepth 100000 in
theorem lk113_54 : xAt kT113 54 (.istore_n 3) 55 := ⟨1, rfl, Or.inr rfl, rfl⟩
set_option maxRecDepth 100000 in
theorem lk113_55 : xAt kT113 55 (.iload_n 3) 56 := ⟨1, rfl, Or.inr rfl, rfl⟩
set_option maxRecDepth 100000 in
theorem lk113_56 : xAt kT113 56 (.ifCond .le 40) 59 := ⟨3, rfl, Or.inr rfl, rfl⟩
set_option maxRecDepth 100000 in
theorem lk113_59 : xAt kT113 59 (.aload_n 1) 60 := ⟨1, rfl, Or.inr rfl, rfl⟩
set_option maxRecDepth 100000 in
theorem lk113_60 : xAt kT113 60 (.getfield 9) 63 := ⟨3, rfl, Or.inr rfl, rfl⟩
set_option maxRecDepth 100000 in
theorem lk113_63 : xAt kT113 63 (.iload_n 2) 64 := ⟨1, rfl, Or.inr rfl, rfl⟩
set_option maxRecDepth 100000 in
theorem lk113_64 : xAt kT113 64 (.bipush 6) 66 := ⟨2, rfl, Or.inr rfl, rfl⟩
set_option maxRecDepth 100000 in
theorem lk113_66 : xAt kT113 66 (.imul) 67 := ⟨1, rfl, Or.inr rfl, rfl⟩
set_option maxRecDepth 100000 in
theorem lk113_67 : xAt kT113 67 (.aload_n 0) 68 := ⟨1, rfl, Or.inr rfl, rfl⟩
set_option maxRecDepth 100000 in
theorem lk113_68 : xAt kT113 68 (.getfield 9) 71 := ⟨3, rfl, Or.inr rfl, rfl⟩
set_option maxRecDepth 100000 in
theorem lk113_71 : xAt kT113 71 (.iload_n 2) 72 := ⟨1, rfl, Or.inr rfl, rfl⟩
set_option maxRecDepth 100000 in
theorem lk113_72 : xAt kT113 72 (.bipush 6) 74 := ⟨2, rfl, Or.inr rfl, rfl⟩
set_option maxRecDepth 100000 in
theorem lk113_74 : xAt kT113 74 (.imul) 75 := ⟨1, rfl, Or.inr rfl, rfl⟩
set_option maxRecDepth 100000 in
theorem lk113_75 : xAt kT113 75 (.iload_n 3) 76 := ⟨1, rfl, Or.inr rfl, rfl⟩
set_option maxRecDepth 100000 in
theorem lk113_76 : xAt kT113 76 (.bipush 6) 78 := ⟨2, rfl, Or.inr rfl, rfl⟩
set_option maxRecDepth 100000 in
theorem lk113_78 : xAt kT113 78 (.imul) 79 := ⟨1, rfl, Or.inr rfl, rfl⟩
set_option maxRecDepth 100000 in
theorem lk113_79 : xAt kT113 79 (.invokestatic 49) 82 := ⟨3, rfl, Or.inr rfl, rfl⟩
set_option maxRecDepth 100000 in
theorem lk113_82 : xAt kT113 82 (.aload_n 1) 83 := ⟨1, rfl, Or.inr rfl, rfl⟩
set_option maxRecDepth 100000 in
theorem lk113_83 : xAt kT113 83 (.getfield 15) 86 := ⟨3, rfl, Or.inr rfl, rfl⟩
set_option maxRecDepth 100000 in
theorem lk113_86 : xAt kT113 86 (.iload_n 2) 87 := ⟨1, rfl, Or.inr rfl, rfl⟩
set_option maxRecDepth 100000 in
theorem lk113_87 : xAt kT113 87 (.aload_n 0) 88 := ⟨1, rfl, Or.inr rfl, rfl⟩
set_option maxRecDepth 100000 in
theorem lk113_88 : xAt kT113 88 (.getfield 15) 91 := ⟨3, rfl, Or.inr rfl, rfl⟩
set_option maxRecDepth 100000 in
theorem lk113_91 : xAt kT113 91 (.iload_n 2) 92 := ⟨1, rfl, Or.inr rfl, rfl⟩
set_option maxRecDepth 100000 in
theorem lk113_92 : xAt kT113 92 (.iload_n 3) 93 := ⟨1, rfl, Or.inr rfl, rfl⟩
set_option maxRecDepth 100000 in
theorem lk113_93 : xAt kT113 93 (.invokestatic 49) 96 := ⟨3, rfl, Or.inr rfl, rfl⟩
set_option maxRecDepth 100000 in
theorem lk113_96 : xAt kT113 96 (.aload_n 0) 97 := ⟨1, rfl, Or.inr rfl, rfl⟩
set_option maxRecDepth 100000 in
theorem lk113_97 : xAt kT113 97 (.aload_n 1) 98 := ⟨1, rfl, Or.inr rfl, rfl⟩
set_option maxRecDepth 100000 in
theorem lk113_98 : xAt kT113 98 (.getfield 39) 101 := ⟨3, rfl, Or.inr rfl, rfl⟩
set_option maxRecDepth 100000 in
theorem lk113_101 : xAt kT113 101 (.putfield 39) 104 := ⟨3, rfl, Or.inr rfl, rfl⟩
set_option maxRecDepth 100000 in
theorem lk113_104 : xAt kT113 104 (.return_) 105 := ⟨1, rfl, Or.inr rfl, rfl⟩
set_option maxRecDepth 100000 in
theorem lk109_0 : xAt kT109 0 (.aload_n 0) 1 := ⟨1, rfl, Or.inr rfl, rfl⟩
set_option maxRecDepth 100000 in
theorem lk109_1 : xAt kT109 1 (.getfield 39) 4 := ⟨3, rfl, Or.inr rfl, rfl⟩
set_option maxRecDepth 100000 in
theorem lk109_4 : xAt kT109 4 (.ifCond .le 22) 7 := ⟨3, rfl, Or.inr rfl, rfl⟩
set_option maxRecDepth 100000 in
theorem lk109_7 : xAt kT109 7 (.aload_n 0) 8 := ⟨1, rfl, Or.inr rfl, rfl⟩
set_option maxRecDepth 100000 in
theorem lk109_8 : xAt kT109 8 (.getfield 9) 11 := ⟨3, rfl, Or.inr rfl, rfl⟩
set_option maxRecDepth 100000 in
theorem lk109_11 : xAt kT109 11 (.aload_n 0) 12 := ⟨1, rfl, Or.inr rfl, rfl⟩
set_option maxRecDepth 100000 in
theorem lk109_12 : xAt kT109 12 (.getfield 39) 15 := ⟨3, rfl, Or.inr rfl, rfl⟩
set_option maxRecDepth 100000 in
theorem lk109_15 : xAt kT109 15 (.iconst 1) 16 := ⟨1, rfl, Or.inr rfl, rfl⟩
set_option maxRecDepth 100000 in
theorem lk109_16 : xAt kT109 16 (.isub) 17 := ⟨1, rfl, Or.inr rfl, rfl⟩
set_option maxRecDepth 100000 in
theorem lk109_17 : xAt kT109 17 (.bipush 6) 19 := ⟨2, rfl, Or.inr rfl, rfl⟩
set_option maxRecDepth 100000 in
theorem lk109_19 : xAt kT109 19 (.imul) 20 := ⟨1, rfl, Or.inr rfl, rfl⟩
set_option maxRecDepth 100000 in
theorem lk109_20 : xAt kT109 20 (.iconst 0) 21 := ⟨1, rfl, Or.inr rfl, rfl⟩
set_option maxRecDepth 100000 in
theorem lk109_21 : xAt kT109 21 (.iadd) 22 := ⟨1, rfl, Or.inr rfl, rfl⟩
set_option maxRecDepth 100000 in
theorem lk109_22 : xAt kT109 22 (.iaload) 23 := ⟨1, rfl, Or.inr rfl, rfl⟩
set_option maxRecDepth 100000 in
theorem lk109_23 : xAt kT109 23 (.goto 7) 26 := ⟨3, rfl, Or.inr rfl, rfl⟩
set_option maxRecDepth 100000 in
theorem lk109_26 : xAt kT109 26 (.aload_n 0) 27 := ⟨1, rfl, Or.inr rfl, rfl⟩
set_option maxRecDepth 100000 in
theorem lk109_27 : xAt kT109 27 (.getfield 33) 30 := ⟨3, rfl, Or.inr rfl, rfl⟩
set_option maxRecDepth 100000 in
theorem lk109_30 : xAt kT109 30 (.ireturn) 31 := ⟨1, rfl, Or.inr rfl, rfl⟩
set_option maxRecDepth 100000 in
theorem lk114_0 : xAt kT114 0 (.aload_n 0) 1 := ⟨1, rfl, Or.inr rfl, rfl⟩
set_option maxRecDepth 100000 in
theorem lk114_1 : xAt kT114 1 (.iconst 1) 2 := ⟨1, rfl, Or.inr rfl, rfl⟩
set_option maxRecDepth 100000 in
theorem lk114_2 : xAt kT114 2 (.putfield 22) 5 := ⟨3, rfl, Or.inr rfl, rfl⟩
set_option maxRecDepth 100000 in
theorem lk114_5 : xAt kT114 5 (.aload_n 0) 6 := ⟨1, rfl, Or.inr rfl, rfl⟩
set_option maxRecDepth 100000 in
theorem lk114_6 : xAt kT114 6 (.iload_n 1) 7 := ⟨1, rfl, Or.inr rfl, rfl⟩
set_option maxRecDepth 100000 in
theorem lk114_7 : xAt kT114 7 (.putfield 26) 10 := ⟨3, rfl, Or.inr rfl, rfl⟩
set_option maxRecDepth 100000 in
theorem lk114_10 : xAt kT114 10 (.aload_n 0) 11 := ⟨1, rfl, Or.inr rfl, rfl⟩
set_option maxRecDepth 100000 in
theorem lk114_11 : xAt kT114 11 (.iload_n 2) 12 := ⟨1, rfl, Or.inr rfl, rfl⟩
set_option maxRecDepth 100000 in
theorem lk114_12 : xAt kT114 12 (.putfield 30) 15 := ⟨3, rfl, Or.inr rfl, rfl⟩
set_option maxRecDepth 100000 in
theorem lk114_15 : xAt kT114 15 (.aload_n 0) 16 := ⟨1, rfl, Or.inr rfl, rfl⟩
set_option maxRecDepth 100000 in
theorem lk114_16 : xAt kT114 16 (.iload_n 3) 17 := ⟨1, rfl, Or.inr rfl, rfl⟩
set_option maxRecDepth 100000 in
theorem lk114_17 : xAt kT114 17 (.putfield 33) 20 := ⟨3, rfl, Or.inr rfl, rfl⟩
set_option maxRecDepth 100000 in
theorem lk114_20 : xAt kT114 20 (.aload_n 0) 21 := ⟨1, rfl, Or.inr rfl, rfl⟩
set_option maxRecDepth 100000 in
theorem lk114_21 : xAt kT114 21 (.iload 4) 23 := ⟨2, rfl, Or.inr rfl, rfl⟩
set_option maxRecDepth 100000 in
theorem lk114_23 : xAt kT114 23 (.putfield 36) 26 := ⟨3, rfl, Or.inr rfl, rfl⟩
set_option maxRecDepth 100000 in
theorem lk114_26 : xAt kT114 26 (.aload_n 0) 27 := ⟨1, rfl, Or.inr rfl, rfl⟩
set_option maxRecDepth 100000 in
theorem lk114_27 : xAt kT114 27 (.iconst 0) 28 := ⟨1, rfl, Or.inr rfl, rfl⟩
set_option maxRecDepth 100000 in
theorem lk114_28 : xAt kT114 28 (.putfield 39) 31 := ⟨3, rfl, Or.inr rfl, rfl⟩
set_option maxRecDepth 100000 in
theorem lk114_31 : xAt kT114 31 (.aload_n 0) 32 := ⟨1, rfl, Or.inr rfl, rfl⟩
set_option maxRecDepth 100000 in
theorem lk114_32 : xAt kT114 32 (.iconst 0) 33 := ⟨1, rfl, Or.inr rfl, rfl⟩
set_option maxRecDepth 100000 in
theorem lk114_33 : xAt kT114 33 (.putfield 42) 36 := ⟨3, rfl, Or.inr rfl, rfl⟩
set_option maxRecDepth 100000 in
theorem lk114_36 : xAt kT114 36 (.return_) 37 := ⟨1, rfl, Or.inr rfl, rfl⟩
set_option maxRecDepth 100000 in
theorem lk54_0 : xAt kT54 0 (.aload_n 0) 1 := ⟨1, rfl, Or.inr rfl, rfl⟩
set_option maxRecDepth 100000 in
theorem lk54_1 : xAt kT54 1 (.getfield 9) 4 := ⟨3, rfl, Or.inr rfl, rfl⟩
set_option maxRecDepth 100000 in
theorem lk54_4 : xAt kT54 4 (.iload_n 1) 5 := ⟨1, rfl, Or.inr rfl, rfl⟩
set_option maxRecDepth 100000 in
theorem lk54_5 : xAt kT54 5 (.iconst 1) 6 := ⟨1, rfl, Or.inr rfl, rfl⟩
set_option maxRecDepth 100000 in
theorem lk54_6 : xAt kT54 6 (.iadd) 7 := ⟨1, rfl, Or.inr rfl, rfl⟩
set_option maxRecDepth 100000 in
theorem lk54_7 : xAt kT54 7 (.invokestatic 41) 10 := ⟨3, rfl, Or.inr rfl, rfl⟩
set_option maxRecDepth 100000 in
theorem lk54_10 : xAt kT54 10 (.aload_n 0) 11 := ⟨1, rfl, Or.inr rfl, rfl⟩
set_option maxRecDepth 100000 in
theorem lk54_11 : xAt kT54 11 (.getfield 15) 14 := ⟨3, rfl, Or.inr rfl, rfl⟩
set_option maxRecDepth 100000 in
theorem lk54_14 : xAt kT54 14 (.iconst 0) 15 := ⟨1, rfl, Or.inr rfl, rfl⟩
set_option maxRecDepth 100000 in
theorem lk54_15 : xAt kT54 15 (.invokestatic 41) 18 := ⟨3, rfl, Or.inr rfl, rfl⟩
set_option maxRecDepth 100000 in
theorem lk54_18 : xAt kT54 18 (.aload_n 0) 19 := ⟨1, rfl, Or.inr rfl, rfl⟩
set_option maxRecDepth 100000 in
theorem lk54_19 : xAt kT54 19 (.getfield 18) 22 := ⟨3, rfl, Or.inr rfl, rfl⟩
set_option maxRecDepth 100000 in
theorem lk54_22 : xAt kT54 22 (.iconst 0) 23 := ⟨1, rfl, Or.inr rfl, rfl⟩
set_option maxRecDepth 100000 in
theorem lk54_23 : xAt kT54 23 (.invokestatic 41) 26 := ⟨3, rfl, Or.inr rfl, rfl⟩
set_option maxRecDepth 100000 in
theorem lk54_26 : xAt kT54 26 (.aload_n 0) 27 := ⟨1, rfl, Or.inr rfl, rfl⟩
set_option maxRecDepth 100000 in
theorem lk54_27 : xAt kT54 27 (.getfield 21) 30 := ⟨3, rfl, Or.inr rfl, rfl⟩
set_option maxRecDepth 100000 in
theorem lk54_30 : xAt kT54 30 (.iconst 0) 31 := ⟨1, rfl, Or.inr rfl, rfl⟩
set_option maxRecDepth 100000 in
theorem lk54_31 : xAt kT54 31 (.invokestatic 41) 34 := ⟨3, rfl, Or.inr rfl, rfl⟩
set_option maxRecDepth 100000 in
theorem lk54_34 : xAt kT54 34 (.aload_n 0) 35 := ⟨1, rfl, Or.inr rfl, rfl⟩
set_option maxRecDepth 100000 in
theorem lk54_35 : xAt kT54 35 (.getfield 24) 38 := ⟨3, rfl, Or.inr rfl, rfl⟩
set_option maxRecDepth 100000 in
theorem lk54_38 : xAt kT54 38 (.iconst 0) 39 := ⟨1, rfl, Or.inr rfl, rfl⟩
set_option maxRecDepth 100000 in
theorem lk54_39 : xAt kT54 39 (.invokestatic 41) 42 := ⟨3, rfl, Or.inr rfl, rfl⟩
set_option maxRecDepth 100000 in
theorem lk54_42 : xAt kT54 42 (.aload_n 0) 43 := ⟨1, rfl, Or.inr rfl, rfl⟩
set_option maxRecDepth 100000 in
theorem lk54_43 : xAt kT54 43 (.getfield 27) 46 := ⟨3, rfl, Or.inr rfl, rfl⟩
set_option maxRecDepth 100000 in
theorem lk54_46 : xAt kT54 46 (.iload_n 2) 47 := ⟨1, rfl, Or.inr rfl, rfl⟩
set_option maxRecDepth 100000 in
theorem lk54_47 : xAt kT54 47 (.invokestatic 41) 50 := ⟨3, rfl, Or.inr rfl, rfl⟩
set_option maxRecDepth 100000 in
theorem lk54_50 : xAt kT54 50 (.iconst 0) 51 := ⟨1, rfl, Or.inr rfl, rfl⟩
set_option maxRecDepth 100000 in
theorem lk54_51 : xAt kT54 51 (.istore_n 3) 52 := ⟨1, rfl, Or.inr rfl, rfl⟩
set_option maxRecDepth 100000 in
theorem lk54_52 : xAt kT54 52 (.iload_n 3) 53 := ⟨1, rfl, Or.inr rfl, rfl⟩
set_option maxRecDepth 100000 in
theorem lk54_53 : xAt kT54 53 (.bipush 7) 55 := ⟨2, rfl, Or.inr rfl, rfl⟩
set_option maxRecDepth 100000 in
theorem lk54_55 : xAt kT54 55 (.if_icmp .ge 23) 58 := ⟨3, rfl, Or.inr rfl, rfl⟩
set_option maxRecDepth 100000 in
theorem lk54_58 : xAt kT54 58 (.aload_n 0) 59 := ⟨1, rfl, Or.inr rfl, rfl⟩
set_option maxRecDepth 100000 in
theorem lk54_59 : xAt kT54 59 (.getfield 30) 62 := ⟨3, rfl, Or.inr rfl, rfl⟩
set_option maxRecDepth 100000 in
theorem lk54_62 : xAt kT54 62 (.iload_n 3) 63 := ⟨1, rfl, Or.inr rfl, rfl⟩
set_option maxRecDepth 100000 in
theorem lk54_63 : xAt kT54 63 (.iconst 1) 64 := ⟨1, rfl, Or.inr rfl, rfl⟩
set_option maxRecDepth 100000 in
theorem lk54_64 : xAt kT54 64 (.bastore) 65 := ⟨1, rfl, Or.inr rfl, rfl⟩
set_option maxRecDepth 100000 in
theorem lk54_65 : xAt kT54 65 (.aload_n 0) 66 := ⟨1, rfl, Or.inr rfl, rfl⟩
set_option maxRecDepth 100000 in
theorem lk54_66 : xAt kT54 66 (.getfield 34) 69 := ⟨3, rfl, Or.inr rfl, rfl⟩
set_option maxRecDepth 100000 in
theorem lk54_69 : xAt kT54 69 (.iload_n 3) 70 := ⟨1, rfl, Or.inr rfl, rfl⟩
set_option maxRecDepth 100000 in
theorem lk54_70 : xAt kT54 70 (.iconst 0) 71 := ⟨1, rfl, Or.inr rfl, rfl⟩
set_option maxRecDepth 100000 in
theorem lk54_71 : xAt kT54 71 (.bastore) 72 := ⟨1, rfl, Or.inr rfl, rfl⟩
set_option maxRecDepth 100000 in
theorem lk54_72 : xAt kT54 72 (.iinc 3 1) 75 := ⟨3, rfl, Or.inr rfl, rfl⟩
set_option maxRecDepth 100000 in
theorem lk54_75 : xAt kT54 75 (.goto (-23)) 78 := ⟨3, rfl, Or.inr rfl, rfl⟩
set_option maxRecDepth 100000 in
theorem lk54_78 : xAt kT54 78 (.aload_n 0) 79 := ⟨1, rfl, Or.inr rfl, rfl⟩
set_option maxRecDepth 100000 in
theorem lk54_79 : xAt kT54 79 (.iload_n 1) 80 := ⟨1, rfl, Or.inr rfl, rfl⟩
set_option maxRecDepth 100000 in
theorem lk54_80 : xAt kT54 80 (.iconst 1) 81 := ⟨1, rfl, Or.inr rfl, rfl⟩
set_option maxRecDepth 100000 in
theorem lk54_81 : xAt kT54 81 (.iadd) 82 := ⟨1, rfl, Or.inr rfl, rfl⟩
set_option maxRecDepth 100000 in
theorem lk54_82 : xAt kT54 82 (.putfield 47) 85 := ⟨3, rfl, Or.inr rfl, rfl⟩
set_option maxRecDepth 100000 in
theorem lk54_85 : xAt kT54 85 (.aload_n 0) 86 := ⟨1, rfl, Or.inr rfl, rfl⟩
set_option maxRecDepth 100000 in
theorem lk54_86 : xAt kT54 86 (.iconst 0) 87 := ⟨1, rfl, Or.inr rfl, rfl⟩
set_option maxRecDepth 100000 in
theorem lk54_87 : xAt kT54 87 (.putfield 50) 90 := ⟨3, rfl, Or.inr rfl, rfl⟩
set_option maxRecDepth 100000 in
theorem lk54_90 : xAt kT54 90 (.aload_n 0) 91 := ⟨1, rfl, Or.inr rfl, rfl⟩
set_option maxRecDepth 100000 in
theorem lk54_91 : xAt kT54 91 (.iconst (-1)) 92 := ⟨1, rfl, Or.inr rfl, rfl⟩
set_option maxRecDepth 100000 in
theorem lk54_92 : xAt kT54 92 (.putfield 37) 95 := ⟨3, rfl, Or.inr rfl, rfl⟩
set_option maxRecDepth 100000 in
theorem lk54_95 : xAt kT54 95 (.return_) 96 := ⟨1, rfl, Or.inr rfl, rfl⟩
set_option maxRecDepth 100000 in
theorem lk63_0 : xAt kT63 0 (.iload_n 1) 1 := ⟨1, rfl, Or.inr rfl, rfl⟩
set_option maxRecDepth 100000 in
theorem lk63_1 : xAt kT63 1 (.aload_n 0) 2 := ⟨1, rfl, Or.inr rfl, rfl⟩
set_option maxRecDepth 100000 in
theorem lk63_2 : xAt kT63 2 (.getfield 28) 5 := ⟨3, rfl, Or.inr rfl, rfl⟩
set_option maxRecDepth 100000 in
theorem lk63_5 : xAt kT63 5 (.isub) 6 := ⟨1, rfl, Or.inr rfl, rfl⟩
set_option maxRecDepth 100000 in
theorem lk63_6 : xAt kT63 6 (.iconst 1) 7 := ⟨1, rfl, Or.inr rfl, rfl⟩
set_option maxRecDepth 100000 in
theorem lk63_7 : xAt kT63 7 (.isub) 8 := ⟨1, rfl, Or.inr rfl, rfl⟩
set_option maxRecDepth 100000 in
theorem lk63_8 : xAt kT63 8 (.bipush 6) 10 := ⟨2, rfl, Or.inr rfl, rfl⟩
set_option maxRecDepth 100000 in
theorem lk63_10 : xAt kT63 10 (.imul) 11 := ⟨1, rfl, Or.inr rfl, rfl⟩
set_option maxRecDepth 100000 in
theorem lk63_11 : xAt kT63 11 (.ireturn) 12 := ⟨1, rfl, Or.inr rfl, rfl⟩
set_option maxRecDepth 100000 in
theorem lk70_0 : xAt kT70 0 (.iload_n 1) 1 := ⟨1, rfl, Or.inr rfl, rfl⟩
set_option maxRecDepth 100000 in
theorem lk70_1 : xAt kT70 1 (.aload_n 0) 2 := ⟨1, rfl, Or.inr rfl, rfl⟩
set_option maxRecDepth 100000 in
theorem lk70_2 : xAt kT70 2 (.getfield 34) 5 := ⟨3, rfl, Or.inr rfl, rfl⟩
set_option maxRecDepth 100000 in
theorem lk70_5 : xAt kT70 5 (.invokestatic 70) 8 := ⟨3, rfl, Or.inr rfl, rfl⟩
set_option maxRecDepth 100000 in
theorem lk70_8 : xAt kT70 8 (.aload_n 0) 9 := ⟨1, rfl, Or.inr rfl, rfl⟩
set_option maxRecDepth 100000 in
theorem lk70_9 : xAt kT70 9 (.getfield 28) 12 := ⟨3, rfl, Or.inr rfl, rfl⟩
set_option maxRecDepth 100000 in
theorem lk70_12 : xAt kT70 12 (.isub) 13 := ⟨1, rfl, Or.inr rfl, rfl⟩
set_option maxRecDepth 100000 in
theorem lk70_13 : xAt kT70 13 (.iconst 1) 14 := ⟨1, rfl, Or.inr rfl, rfl⟩
set_option maxRecDepth 100000 in
theorem lk70_14 : xAt kT70 14 (.isub) 15 := ⟨1, rfl, Or.inr rfl, rfl⟩
set_option maxRecDepth 100000 in
theorem lk70_15 : xAt kT70 15 (.istore_n 2) 16 := ⟨1, rfl, Or.inr rfl, rfl⟩
set_option maxRecDepth 100000 in
theorem lk70_16 : xAt kT70 16 (.iload_n 2) 17 := ⟨1, rfl, Or.inr rfl, rfl⟩
set_option maxRecDepth 100000 in
theorem lk70_17 : xAt kT70 17 (.ifCond .lt 24) 20 := ⟨3, rfl, Or.inr rfl, rfl⟩
set_option maxRecDepth 100000 in
theorem lk70_20 : xAt kT70 20 (.aload_n 0) 21 := ⟨1, rfl, Or.inr rfl, rfl⟩
set_option maxRecDepth 100000 in
theorem lk70_21 : xAt kT70 21 (.getfield 9) 24 := ⟨3, rfl, Or.inr rfl, rfl⟩
set_option maxRecDepth 100000 in
theorem lk70_24 : xAt kT70 24 (.iload_n 2) 25 := ⟨1, rfl, Or.inr rfl, rfl⟩
set_option maxRecDepth 100000 in
theorem lk70_25 : xAt kT70 25 (.bipush 6) 27 := ⟨2, rfl, Or.inr rfl, rfl⟩
set_option maxRecDepth 100000 in
theorem lk70_27 : xAt kT70 27 (.imul) 28 := ⟨1, rfl, Or.inr rfl, rfl⟩
set_option maxRecDepth 100000 in
theorem lk70_28 : xAt kT70 28 (.iconst 1) 29 := ⟨1, rfl, Or.inr rfl, rfl⟩
set_option maxRecDepth 100000 in
theorem lk70_29 : xAt kT70 29 (.iadd) 30 := ⟨1, rfl, Or.inr rfl, rfl⟩
set_option maxRecDepth 100000 in
theorem lk70_30 : xAt kT70 30 (.iaload) 31 := ⟨1, rfl, Or.inr rfl, rfl⟩
set_option maxRecDepth 100000 in
theorem lk70_31 : xAt kT70 31 (.iconst 1) 32 := ⟨1, rfl, Or.inr rfl, rfl⟩
set_option maxRecDepth 100000 in
theorem lk70_32 : xAt kT70 32 (.if_icmp .eq 9) 35 := ⟨3, rfl, Or.inr rfl, rfl⟩
set_option maxRecDepth 100000 in
theorem lk70_35 : xAt kT70 35 (.iinc 2 (-1)) 38 := ⟨3, rfl, Or.inr rfl, rfl⟩
set_option maxRecDepth 100000 in
theorem lk70_38 : xAt kT70 38 (.goto (-22)) 41 := ⟨3, rfl, Or.inr rfl, rfl⟩
set_option maxRecDepth 100000 in
theorem lk70_41 : xAt kT70 41 (.aload_n 0) 42 := ⟨1, rfl, Or.inr rfl, rfl⟩
set_option maxRecDepth 100000 in
theorem lk70_42 : xAt kT70 42 (.getfield 28) 45 := ⟨3, rfl, Or.inr rfl, rfl⟩
set_option maxRecDepth 100000 in
theorem lk70_45 : xAt kT70 45 (.iconst 1) 46 := ⟨1, rfl, Or.inr rfl, rfl⟩
set_option maxRecDepth 100000 in
theorem lk70_46 : xAt kT70 46 (.iadd) 47 := ⟨1, rfl, Or.inr rfl, rfl⟩
set_option maxRecDepth 100000 in
theorem lk70_47 : xAt kT70 47 (.iconst (-1)) 48 := ⟨1, rfl, Or.inr rfl, rfl⟩
set_option maxRecDepth 100000 in
theorem lk70_48 : xAt kT70 48 (.iload_n 2) 49 := ⟨1, rfl, Or.inr rfl, rfl⟩
set_option maxRecDepth 100000 in
theorem lk70_49 : xAt kT70 49 (.invokestatic 48) 52 := ⟨3, rfl, Or.inr rfl, rfl⟩
set_option maxRecDepth 100000 in
theorem lk70_52 : xAt kT70 52 (.iadd) 53 := ⟨1, rfl, Or.inr rfl, rfl⟩
set_option maxRecDepth 100000 in
theorem lk70_53 : xAt kT70 53 (.ireturn) 54 := ⟨1, rfl, Or.inr rfl, rfl⟩
set_option maxRecDepth 100000 in
theorem lk66_0 : xAt kT66 0 (.aload_n 0) 1 := ⟨1, rfl, Or.inr rfl, rfl⟩
set_option maxRecDepth 100000 in
theorem lk66_1 : xAt kT66 1 (.aload_n 0) 2 := ⟨1, rfl, Or.inr rfl, rfl⟩
set_option maxRecDepth 100000 in
theorem lk66_2 : xAt kT66 2 (.aload_n 0) 3 := ⟨1, rfl, Or.inr rfl, rfl⟩
set_option maxRecDepth 100000 in
theorem lk66_3 : xAt kT66 3 (.getfield 34) 6 := ⟨3, rfl, Or.inr rfl, rfl⟩
set_option maxRecDepth 100000 in
theorem lk66_6 : xAt kT66 6 (.invokevirtual 76) 9 := ⟨3, rfl, Or.inr rfl, rfl⟩
set_option maxRecDepth 100000 in
theorem lk66_9 : xAt kT66 9 (.putfield 67) 12 := ⟨3, rfl, Or.inr rfl, rfl⟩
set_option maxRecDepth 100000 in
theorem lk66_12 : xAt kT66 12 (.aload_n 0) 13 := ⟨1, rfl, Or.inr rfl, rfl⟩
set_option maxRecDepth 100000 in
theorem lk66_13 : xAt kT66 13 (.aload_n 0) 14 := ⟨1, rfl, Or.inr rfl, rfl⟩
set_option maxRecDepth 100000 in
theorem lk66_14 : xAt kT66 14 (.getfield 67) 17 := ⟨3, rfl, Or.inr rfl, rfl⟩
set_option maxRecDepth 100000 in
theorem lk66_17 : xAt kT66 17 (.aload_n 0) 18 := ⟨1, rfl, Or.inr rfl, rfl⟩
set_option maxRecDepth 100000 in
theorem lk66_18 : xAt kT66 18 (.getfield 28) 21 := ⟨3, rfl, Or.inr rfl, rfl⟩
set_option maxRecDepth 100000 in
theorem lk66_21 : xAt kT66 21 (.if_icmp .ne 10) 24 := ⟨3, rfl, Or.inr rfl, rfl⟩
set_option maxRecDepth 100000 in
theorem lk66_24 : xAt kT66 24 (.aload_n 0) 25 := ⟨1, rfl, Or.inr rfl, rfl⟩
set_option maxRecDepth 100000 in
theorem lk66_25 : xAt kT66 25 (.getfield 22) 28 := ⟨3, rfl, Or.inr rfl, rfl⟩
set_option maxRecDepth 100000 in
theorem lk66_28 : xAt kT66 28 (.goto 18) 31 := ⟨3, rfl, Or.inr rfl, rfl⟩
set_option maxRecDepth 100000 in
theorem lk66_31 : xAt kT66 31 (.aload_n 0) 32 := ⟨1, rfl, Or.inr rfl, rfl⟩
set_option maxRecDepth 100000 in
theorem lk66_32 : xAt kT66 32 (.getfield 9) 35 := ⟨3, rfl, Or.inr rfl, rfl⟩
set_option maxRecDepth 100000 in
theorem lk66_35 : xAt kT66 35 (.aload_n 0) 36 := ⟨1, rfl, Or.inr rfl, rfl⟩
set_option maxRecDepth 100000 in
theorem lk66_36 : xAt kT66 36 (.aload_n 0) 37 := ⟨1, rfl, Or.inr rfl, rfl⟩
set_option maxRecDepth 100000 in
theorem lk66_37 : xAt kT66 37 (.getfield 67) 40 := ⟨3, rfl, Or.inr rfl, rfl⟩
set_option maxRecDepth 100000 in
theorem lk66_40 : xAt kT66 40 (.invokevirtual 44) 43 := ⟨3, rfl, Or.inr rfl, rfl⟩
set_option maxRecDepth 100000 in
theorem lk66_43 : xAt kT66 43 (.iconst 3) 44 := ⟨1, rfl, Or.inr rfl, rfl⟩
set_option maxRecDepth 100000 in
theorem lk66_44 : xAt kT66 44 (.iadd) 45 := ⟨1, rfl, Or.inr rfl, rfl⟩
set_option maxRecDepth 100000 in
theorem lk66_45 : xAt kT66 45 (.iaload) 46 := ⟨1, rfl, Or.inr rfl, rfl⟩
set_option maxRecDepth 100000 in
theorem lk66_46 : xAt kT66 46 (.putfield 25) 49 := ⟨3, rfl, Or.inr rfl, rfl⟩
set_option maxRecDepth 100000 in
theorem lk66_49 : xAt kT66 49 (.return_) 50 := ⟨1, rfl, Or.inr rfl, rfl⟩
set_option maxRecDepth 100000 in
theorem lk64_0 : xAt kT64 0 (.aload_n 0) 1 := ⟨1, rfl, Or.inr rfl, rfl⟩
set_option maxRecDepth 100000 in
theorem lk64_1 : xAt kT64 1 (.iconst 0) 2 := ⟨1, rfl, Or.inr rfl, rfl⟩
set_option maxRecDepth 100000 in
theorem lk64_2 : xAt kT64 2 (.putfield 28) 5 := ⟨3, rfl, Or.inr rfl, rfl⟩
set_option maxRecDepth 100000 in
theorem lk64_5 : xAt kT64 5 (.aload_n 0) 6 := ⟨1, rfl, Or.inr rfl, rfl⟩
set_option maxRecDepth 100000 in
theorem lk64_6 : xAt kT64 6 (.iconst 0) 7 := ⟨1, rfl, Or.inr rfl, rfl⟩
set_option maxRecDepth 100000 in
theorem lk64_7 : xAt kT64 7 (.putfield 31) 10 := ⟨3, rfl, Or.inr rfl, rfl⟩
set_option maxRecDepth 100000 in
theorem lk64_10 : xAt kT64 10 (.aload_n 0) 11 := ⟨1, rfl, Or.inr rfl, rfl⟩
set_option maxRecDepth 100000 in
theorem lk64_11 : xAt kT64 11 (.aload_n 0) 12 := ⟨1, rfl, Or.inr rfl, rfl⟩
set_option maxRecDepth 100000 in
theorem lk64_12 : xAt kT64 12 (.getfield 18) 15 := ⟨3, rfl, Or.inr rfl, rfl⟩
set_option maxRecDepth 100000 in
theorem lk64_15 : xAt kT64 15 (.putfield 22) 18 := ⟨3, rfl, Or.inr rfl, rfl⟩
set_option maxRecDepth 100000 in
theorem lk64_18 : xAt kT64 18 (.aload_n 0) 19 := ⟨1, rfl, Or.inr rfl, rfl⟩
set_option maxRecDepth 100000 in
theorem lk64_19 : xAt kT64 19 (.iconst 0) 20 := ⟨1, rfl, Or.inr rfl, rfl⟩
set_option maxRecDepth 100000 in
theorem lk64_20 : xAt kT64 20 (.putfield 34) 23 := ⟨3, rfl, Or.inr rfl, rfl⟩
set_option maxRecDepth 100000 in
theorem lk64_23 : xAt kT64 23 (.aload_n 0) 24 := ⟨1, rfl, Or.inr rfl, rfl⟩
set_option maxRecDepth 100000 in
theorem lk64_24 : xAt kT64 24 (.invokevirtual 37) 27 := ⟨3, rfl, Or.inr rfl, rfl⟩
set_option maxRecDepth 100000 in
theorem lk64_27 : xAt kT64 27 (.return_) 28 := ⟨1, rfl, Or.inr rfl, rfl⟩
set_option maxRecDepth 100000 in
theorem lk65_0 : xAt kT65 0 (.aload_n 0) 1 := ⟨1, rfl, Or.inr rfl, rfl⟩
set_option maxRecDepth 100000 in
theorem lk65_1 : xAt kT65 1 (.aload_n 0) 2 := ⟨1, rfl, Or.inr rfl, rfl⟩
set_option maxRecDepth 100000 in
theorem lk65_2 : xAt kT65 2 (.getfield 28) 5 := ⟨3, rfl, Or.inr rfl, rfl⟩
set_option maxRecDepth 100000 in
theorem lk65_5 : xAt kT65 5 (.aload_n 0) 6 := ⟨1, rfl, Or.inr rfl, rfl⟩
set_option maxRecDepth 100000 in
theorem lk65_6 : xAt kT65 6 (.getfield 34) 9 := ⟨3, rfl, Or.inr rfl, rfl⟩
set_option maxRecDepth 100000 in
theorem lk65_9 : xAt kT65 9 (.iload_n 1) 10 := ⟨1, rfl, Or.inr rfl, rfl⟩
set_option maxRecDepth 100000 in
theorem lk65_10 : xAt kT65 10 (.iconst 1) 11 := ⟨1, rfl, Or.inr rfl, rfl⟩
set_option maxRecDepth 100000 in
theorem lk65_11 : xAt kT65 11 (.isub) 12 := ⟨1, rfl, Or.inr rfl, rfl⟩
set_option maxRecDepth 100000 in
theorem lk65_12 : xAt kT65 12 (.invokestatic 70) 15 := ⟨3, rfl, Or.inr rfl, rfl⟩
set_option maxRecDepth 100000 in
theorem lk65_15 : xAt kT65 15 (.invokestatic 48) 18 := ⟨3, rfl, Or.inr rfl, rfl⟩
set_option maxRecDepth 100000 in
theorem lk65_18 : xAt kT65 18 (.putfield 34) 21 := ⟨3, rfl, Or.inr rfl, rfl⟩
set_option maxRecDepth 100000 in
theorem lk65_21 : xAt kT65 21 (.aload_n 0) 22 := ⟨1, rfl, Or.inr rfl, rfl⟩
set_option maxRecDepth 100000 in
theorem lk65_22 : xAt kT65 22 (.aload_n 0) 23 := ⟨1, rfl, Or.inr rfl, rfl⟩
set_option maxRecDepth 100000 in
theorem lk65_23 : xAt kT65 23 (.getfield 73) 26 := ⟨3, rfl, Or.inr rfl, rfl⟩
set_option maxRecDepth 100000 in
theorem lk65_26 : xAt kT65 26 (.aload_n 0) 27 := ⟨1, rfl, Or.inr rfl, rfl⟩
set_option maxRecDepth 100000 in
theorem lk65_27 : xAt kT65 27 (.getfield 34) 30 := ⟨3, rfl, Or.inr rfl, rfl⟩
set_option maxRecDepth 100000 in
theorem lk65_30 : xAt kT65 30 (.invokestatic 70) 33 := ⟨3, rfl, Or.inr rfl, rfl⟩
set_option maxRecDepth 100000 in
theorem lk65_33 : xAt kT65 33 (.putfield 73) 36 := ⟨3, rfl, Or.inr rfl, rfl⟩
set_option maxRecDepth 100000 in
theorem lk65_36 : xAt kT65 36 (.aload_n 0) 37 := ⟨1, rfl, Or.inr rfl, rfl⟩
set_option maxRecDepth 100000 in
theorem lk65_37 : xAt kT65 37 (.invokevirtual 37) 40 := ⟨3, rfl, Or.inr rfl, rfl⟩
set_option maxRecDepth 100000 in
theorem lk65_40 : xAt kT65 40 (.return_) 41 := ⟨1, rfl, Or.inr rfl, rfl⟩
set_option maxRecDepth 100000 in
theorem lk67_0 : xAt kT67 0 (.iload_n 1) 1 := ⟨1, rfl, Or.inr rfl, rfl⟩
set_option maxRecDepth 100000 in
theorem lk67_1 : xAt kT67 1 (.aload_n 0) 2 := ⟨1, rfl, Or.inr rfl, rfl⟩
set_option maxRecDepth 100000 in
theorem lk67_2 : xAt kT67 2 (.getfield 28) 5 := ⟨3, rfl, Or.inr rfl, rfl⟩
set_option maxRecDepth 100000 in
theorem lk67_5 : xAt kT67 5 (.if_icmp .le 15) 8 := ⟨3, rfl, Or.inr rfl, rfl⟩
set_option maxRecDepth 100000 in
theorem lk67_8 : xAt kT67 8 (.iload_n 1) 9 := ⟨1, rfl, Or.inr rfl, rfl⟩
set_option maxRecDepth 100000 in
theorem lk67_9 : xAt kT67 9 (.aload_n 0) 10 := ⟨1, rfl, Or.inr rfl, rfl⟩
set_option maxRecDepth 100000 in
theorem lk67_10 : xAt kT67 10 (.getfield 34) 13 := ⟨3, rfl, Or.inr rfl, rfl⟩
set_option maxRecDepth 100000 in
theorem lk67_13 : xAt kT67 13 (.if_icmp .gt 7) 16 := ⟨3, rfl, Or.inr rfl, rfl⟩
set_option maxRecDepth 100000 in
theorem lk67_16 : xAt kT67 16 (.iconst 1) 17 := ⟨1, rfl, Or.inr rfl, rfl⟩
set_option maxRecDepth 100000 in
theorem lk67_17 : xAt kT67 17 (.goto 4) 20 := ⟨3, rfl, Or.inr rfl, rfl⟩
set_option maxRecDepth 100000 in
theorem lk67_20 : xAt kT67 20 (.iconst 0) 21 := ⟨1, rfl, Or.inr rfl, rfl⟩
set_option maxRecDepth 100000 in
theorem lk67_21 : xAt kT67 21 (.ireturn) 22 := ⟨1, rfl, Or.inr rfl, rfl⟩
set_option maxRecDepth 100000 in
theorem lk69_0 : xAt kT69 0 (.aload_n 0) 1 := ⟨1, rfl, Or.inr rfl, rfl⟩
set_option maxRecDepth 100000 in
theorem lk69_1 : xAt kT69 1 (.getfield 34) 4 := ⟨3, rfl, Or.inr rfl, rfl⟩
set_option maxRecDepth 100000 in
theorem lk69_4 : xAt kT69 4 (.aload_n 0) 5 := ⟨1, rfl, Or.inr rfl, rfl⟩
set_option maxRecDepth 100000 in
theorem lk69_5 : xAt kT69 5 (.getfield 28) 8 := ⟨3, rfl, Or.inr rfl, rfl⟩
set_option maxRecDepth 100000 in
theorem lk69_8 : xAt kT69 8 (.isub) 9 := ⟨1, rfl, Or.inr rfl, rfl⟩
set_option maxRecDepth 100000 in
theorem lk69_9 : xAt kT69 9 (.ireturn) 10 := ⟨1, rfl, Or.inr rfl, rfl⟩
set_option maxRecDepth 100000 in
theorem lk71_0 : xAt kT71 0 (.aload_n 0) 1 := ⟨1, rfl, Or.inr rfl, rfl⟩
set_option maxRecDepth 100000 in
theorem lk71_1 : xAt kT71 1 (.iload_n 1) 2 := ⟨1, rfl, Or.inr rfl, rfl⟩
set_option maxRecDepth 100000 in
theorem lk71_2 : xAt kT71 2 (.invokevirtual 76) 5 := ⟨3, rfl, Or.inr rfl, rfl⟩
set_option maxRecDepth 100000 in
theorem lk71_5 : xAt kT71 5 (.istore_n 2) 6 := ⟨1, rfl, Or.inr rfl, rfl⟩
set_option maxRecDepth 100000 in
theorem lk71_6 : xAt kT71 6 (.iload_n 2) 7 := ⟨1, rfl, Or.inr rfl, rfl⟩
set_option maxRecDepth 100000 in
theorem lk71_7 : xAt kT71 7 (.aload_n 0) 8 := ⟨1, rfl, Or.inr rfl, rfl⟩
set_option maxRecDepth 100000 in
theorem lk71_8 : xAt kT71 8 (.getfield 28) 11 := ⟨3, rfl, Or.inr rfl, rfl⟩
set_option maxRecDepth 100000 in
theorem lk71_11 : xAt kT71 11 (.if_icmp .ne 10) 14 := ⟨3, rfl, Or.inr rfl, rfl⟩
set_option maxRecDepth 100000 in
theorem lk71_14 : xAt kT71 14 (.aload_n 0) 15 := ⟨1, rfl, Or.inr rfl, rfl⟩
set_option maxRecDepth 100000 in
theorem lk71_15 : xAt kT71 15 (.getfield 22) 18 := ⟨3, rfl, Or.inr rfl, rfl⟩
set_option maxRecDepth 100000 in
theorem lk71_18 : xAt kT71 18 (.goto 15) 21 := ⟨3, rfl, Or.inr rfl, rfl⟩
set_option maxRecDepth 100000 in
theorem lk71_21 : xAt kT71 21 (.aload_n 0) 22 := ⟨1, rfl, Or.inr rfl, rfl⟩
set_option maxRecDepth 100000 in
theorem lk71_22 : xAt kT71 22 (.getfield 9) 25 := ⟨3, rfl, Or.inr rfl, rfl⟩
set_option maxRecDepth 100000 in
theorem lk71_25 : xAt kT71 25 (.aload_n 0) 26 := ⟨1, rfl, Or.inr rfl, rfl⟩
set_option maxRecDepth 100000 in
theorem lk71_26 : xAt kT71 26 (.iload_n 2) 27 := ⟨1, rfl, Or.inr rfl, rfl⟩
set_option maxRecDepth 100000 in
theorem lk71_27 : xAt kT71 27 (.invokevirtual 44) 30 := ⟨3, rfl, Or.inr rfl, rfl⟩
set_option maxRecDepth 100000 in
theorem lk71_30 : xAt kT71 30 (.iconst 3) 31 := ⟨1, rfl, Or.inr rfl, rfl⟩
set_option maxRecDepth 100000 in
theorem lk71_31 : xAt kT71 31 (.iadd) 32 := ⟨1, rfl, Or.inr rfl, rfl⟩
set_option maxRecDepth 100000 in
theorem lk71_32 : xAt kT71 32 (.iaload) 33 := ⟨1, rfl, Or.inr rfl, rfl⟩
set_option maxRecDepth 100000 in
theorem lk71_33 : xAt kT71 33 (.ireturn) 34 := ⟨1, rfl, Or.inr rfl, rfl⟩
set_option maxRecDepth 100000 in
theorem lk75_0 : xAt kT75 0 (.iload_n 1) 1 := ⟨1, rfl, Or.inr rfl, rfl⟩
set_option maxRecDepth 100000 in
theorem lk75_1 : xAt kT75 1 (.aload_n 0) 2 := ⟨1, rfl, Or.inr rfl, rfl⟩
set_option maxRecDepth 100000 in
theorem lk75_2 : xAt kT75 2 (.getfield 28) 5 := ⟨3, rfl, Or.inr rfl, rfl⟩
set_option maxRecDepth 100000 in
theorem lk75_5 : xAt kT75 5 (.if_icmp .ne 8) 8 := ⟨3, rfl, Or.inr rfl, rfl⟩
set_option maxRecDepth 100000 in
theorem lk75_8 : xAt kT75 8 (.aload_n 0) 9 := ⟨1, rfl, Or.inr rfl, rfl⟩
set_option maxRecDepth 100000 in
theorem lk75_9 : xAt kT75 9 (.getfield 31) 12 := ⟨3, rfl, Or.inr rfl, rfl⟩
set_option maxRecDepth 100000 in
theorem lk75_12 : xAt kT75 12 (.ireturn) 13 := ⟨1, rfl, Or.inr rfl, rfl⟩
set_option maxRecDepth 100000 in
theorem lk75_13 : xAt kT75 13 (.aload_n 0) 14 := ⟨1, rfl, Or.inr rfl, rfl⟩
set_option maxRecDepth 100000 in
theorem lk75_14 : xAt kT75 14 (.iload_n 1) 15 := ⟨1, rfl, Or.inr rfl, rfl⟩
set_option maxRecDepth 100000 in
theorem lk75_15 : xAt kT75 15 (.invokevirtual 40) 18 := ⟨3, rfl, Or.inr rfl, rfl⟩
set_option maxRecDepth 100000 in
theorem lk75_18 : xAt kT75 18 (.ifCond .eq 18) 21 := ⟨3, rfl, Or.inr rfl, rfl⟩
set_option maxRecDepth 100000 in
theorem lk75_21 : xAt kT75 21 (.aload_n 0) 22 := ⟨1, rfl, Or.inr rfl, rfl⟩
set_option maxRecDepth 100000 in
theorem lk75_22 : xAt kT75 22 (.getfield 9) 25 := ⟨3, rfl, Or.inr rfl, rfl⟩
set_option maxRecDepth 100000 in
theorem lk75_25 : xAt kT75 25 (.aload_n 0) 26 := ⟨1, rfl, Or.inr rfl, rfl⟩
set_option maxRecDepth 100000 in
theorem lk75_26 : xAt kT75 26 (.iload_n 1) 27 := ⟨1, rfl, Or.inr rfl, rfl⟩
set_option maxRecDepth 100000 in
theorem lk75_27 : xAt kT75 27 (.invokevirtual 44) 30 := ⟨3, rfl, Or.inr rfl, rfl⟩
set_option maxRecDepth 100000 in
theorem lk75_30 : xAt kT75 30 (.iconst 0) 31 := ⟨1, rfl, Or.inr rfl, rfl⟩
set_option maxRecDepth 100000 in
theorem lk75_31 : xAt kT75 31 (.iadd) 32 := ⟨1, rfl, Or.inr rfl, rfl⟩
set_option maxRecDepth 100000 in
theorem lk75_32 : xAt kT75 32 (.iaload) 33 := ⟨1, rfl, Or.inr rfl, rfl⟩
set_option maxRecDepth 100000 in
theorem lk75_33 : xAt kT75 33 (.goto 4) 36 := ⟨3, rfl, Or.inr rfl, rfl⟩
set_option maxRecDepth 100000 in
theorem lk75_36 : xAt kT75 36 (.iconst (-1)) 37 := ⟨1, rfl, Or.inr rfl, rfl⟩
set_option maxRecDepth 100000 in
theorem lk75_37 : xAt kT75 37 (.ireturn) 38 := ⟨1, rfl, Or.inr rfl, rfl⟩
set_option maxRecDepth 100000 in
theorem lk72_0 : xAt kT72 0 (.aload_n 0) 1 := ⟨1, rfl, Or.inr rfl, rfl⟩
set_option maxRecDepth 100000 in
theorem lk72_1 : xAt kT72 1 (.iload_n 1) 2 := ⟨1, rfl, Or.inr rfl, rfl⟩
set_option maxRecDepth 100000 in
theorem lk72_2 : xAt kT72 2 (.invokevirtual 54) 5 := ⟨3, rfl, Or.inr rfl, rfl⟩
set_option maxRecDepth 100000 in
theorem lk72_5 : xAt kT72 5 (.iload_n 2) 6 := ⟨1, rfl, Or.inr rfl, rfl⟩
set_option maxRecDepth 100000 in
theorem lk72_6 : xAt kT72 6 (.if_icmp .ne 12) 9 := ⟨3, rfl, Or.inr rfl, rfl⟩
set_option maxRecDepth 100000 in
theorem lk72_9 : xAt kT72 9 (.aload_n 0) 10 := ⟨1, rfl, Or.inr rfl, rfl⟩
set_option maxRecDepth 100000 in
theorem lk72_10 : xAt kT72 10 (.getfield 34) 13 := ⟨3, rfl, Or.inr rfl, rfl⟩
set_option maxRecDepth 100000 in
theorem lk72_13 : xAt kT72 13 (.iload_n 1) 14 := ⟨1, rfl, Or.inr rfl, rfl⟩
set_option maxRecDepth 100000 in
theorem lk72_14 : xAt kT72 14 (.isub) 15 := ⟨1, rfl, Or.inr rfl, rfl⟩
set_option maxRecDepth 100000 in
theorem lk72_15 : xAt kT72 15 (.goto 4) 18 := ⟨3, rfl, Or.inr rfl, rfl⟩
set_option maxRecDepth 100000 in
theorem lk72_18 : xAt kT72 18 (.iconst 0) 19 := ⟨1, rfl, Or.inr rfl, rfl⟩
set_option maxRecDepth 100000 in
theorem lk72_19 : xAt kT72 19 (.istore 4) 21 := ⟨2, rfl, Or.inr rfl, rfl⟩
set_option maxRecDepth 100000 in
theorem lk72_21 : xAt kT72 21 (.iload 4) 23 := ⟨2, rfl, Or.inr rfl, rfl⟩
set_option maxRecDepth 100000 in
theorem lk72_23 : xAt kT72 23 (.ifCond .le 27) 26 := ⟨3, rfl, Or.inr rfl, rfl⟩
set_option maxRecDepth 100000 in
theorem lk72_26 : xAt kT72 26 (.aload_n 0) 27 := ⟨1, rfl, Or.inr rfl, rfl⟩
set_option maxRecDepth 100000 in
theorem lk72_27 : xAt kT72 27 (.getfield 9) 30 := ⟨3, rfl, Or.inr rfl, rfl⟩
set_option maxRecDepth 100000 in
theorem lk72_30 : xAt kT72 30 (.aload_n 0) 31 := ⟨1, rfl, Or.inr rfl, rfl⟩
set_option maxRecDepth 100000 in
theorem lk72_31 : xAt kT72 31 (.iload_n 1) 32 := ⟨1, rfl, Or.inr rfl, rfl⟩
set_option maxRecDepth 100000 in
theorem lk72_32 : xAt kT72 32 (.iconst 1) 33 := ⟨1, rfl, Or.inr rfl, rfl⟩
set_option maxRecDepth 100000 in
theorem lk72_33 : xAt kT72 33 (.iadd) 34 := ⟨1, rfl, Or.inr rfl, rfl⟩
set_option maxRecDepth 100000 in
theorem lk72_34 : xAt kT72 34 (.invokevirtual 44) 37 := ⟨3, rfl, Or.inr rfl, rfl⟩
set_option maxRecDepth 100000 in
theorem lk72_37 : xAt kT72 37 (.aload_n 0) 38 := ⟨1, rfl, Or.inr rfl, rfl⟩
set_option maxRecDepth 100000 in
theorem lk72_38 : xAt kT72 38 (.getfield 9) 41 := ⟨3, rfl, Or.inr rfl, rfl⟩
set_option maxRecDepth 100000 in
theorem lk72_41 : xAt kT72 41 (.iconst 0) 42 := ⟨1, rfl, Or.inr rfl, rfl⟩
set_option maxRecDepth 100000 in
theorem lk72_42 : xAt kT72 42 (.iload 4) 44 := ⟨2, rfl, Or.inr rfl, rfl⟩
set_option maxRecDepth 100000 in
theorem lk72_44 : xAt kT72 44 (.bipush 6) 46 := ⟨2, rfl, Or.inr rfl, rfl⟩
set_option maxRecDepth 100000 in
theorem lk72_46 : xAt kT72 46 (.imul) 47 := ⟨1, rfl, Or.inr rfl, rfl⟩
set_option maxRecDepth 100000 in
theorem lk72_47 : xAt kT72 47 (.invokestatic 61) 50 := ⟨3, rfl, Or.inr rfl, rfl⟩
set_option maxRecDepth 100000 in
theorem lk72_50 : xAt kT72 50 (.aload_n 0) 51 := ⟨1, rfl, Or.inr rfl, rfl⟩
set_option maxRecDepth 100000 in
theorem lk72_51 : xAt kT72 51 (.iload_n 1) 52 := ⟨1, rfl, Or.inr rfl, rfl⟩
set_option maxRecDepth 100000 in
theorem lk72_52 : xAt kT72 52 (.putfield 28) 55 := ⟨3, rfl, Or.inr rfl, rfl⟩
set_option maxRecDepth 100000 in
theorem lk72_55 : xAt kT72 55 (.aload_n 0) 56 := ⟨1, rfl, Or.inr rfl, rfl⟩
set_option maxRecDepth 100000 in
theorem lk72_56 : xAt kT72 56 (.iload_n 2) 57 := ⟨1, rfl, Or.inr rfl, rfl⟩
set_option maxRecDepth 100000 in
theorem lk72_57 : xAt kT72 57 (.putfield 31) 60 := ⟨3, rfl, Or.inr rfl, rfl⟩
set_option maxRecDepth 100000 in
theorem lk72_60 : xAt kT72 60 (.aload_n 0) 61 := ⟨1, rfl, Or.inr rfl, rfl⟩
set_option maxRecDepth 100000 in
theorem lk72_61 : xAt kT72 61 (.iload_n 3) 62 := ⟨1, rfl, Or.inr rfl, rfl⟩
set_option maxRecDepth 100000 in
theorem lk72_62 : xAt kT72 62 (.putfield 22) 65 := ⟨3, rfl, Or.inr rfl, rfl⟩
set_option maxRecDepth 100000 in
theorem lk72_65 : xAt kT72 65 (.aload_n 0) 66 := ⟨1, rfl, Or.inr rfl, rfl⟩
set_option maxRecDepth 100000 in
theorem lk72_66 : xAt kT72 66 (.iload_n 1) 67 := ⟨1, rfl, Or.inr rfl, rfl⟩
set_option maxRecDepth 100000 in
theorem lk72_67 : xAt kT72 67 (.iload 4) 69 := ⟨2, rfl, Or.inr rfl, rfl⟩
set_option maxRecDepth 100000 in
theorem lk72_69 : xAt kT72 69 (.iadd) 70 := ⟨1, rfl, Or.inr rfl, rfl⟩
set_option maxRecDepth 100000 in
theorem lk72_70 : xAt kT72 70 (.putfield 34) 73 := ⟨3, rfl, Or.inr rfl, rfl⟩
set_option maxRecDepth 100000 in
theorem lk72_73 : xAt kT72 73 (.aload_n 0) 74 := ⟨1, rfl, Or.inr rfl, rfl⟩
set_option maxRecDepth 100000 in
theorem lk72_74 : xAt kT72 74 (.aload_n 0) 75 := ⟨1, rfl, Or.inr rfl, rfl⟩
set_option maxRecDepth 100000 in
theorem lk72_75 : xAt kT72 75 (.getfield 73) 78 := ⟨3, rfl, Or.inr rfl, rfl⟩
set_option maxRecDepth 100000 in
theorem lk72_78 : xAt kT72 78 (.aload_n 0) 79 := ⟨1, rfl, Or.inr rfl, rfl⟩
set_option maxRecDepth 100000 in
theorem lk72_79 : xAt kT72 79 (.getfield 34) 82 := ⟨3, rfl, Or.inr rfl, rfl⟩
set_option maxRecDepth 100000 in
theorem lk72_82 : xAt kT72 82 (.invokestatic 70) 85 := ⟨3, rfl, Or.inr rfl, rfl⟩
set_option maxRecDepth 100000 in
theorem lk72_85 : xAt kT72 85 (.putfield 73) 88 := ⟨3, rfl, Or.inr rfl, rfl⟩
set_option maxRecDepth 100000 in
theorem lk72_88 : xAt kT72 88 (.aload_n 0) 89 := ⟨1, rfl, Or.inr rfl, rfl⟩
set_option maxRecDepth 100000 in
theorem lk72_89 : xAt kT72 89 (.invokevirtual 37) 92 := ⟨3, rfl, Or.inr rfl, rfl⟩
set_option maxRecDepth 100000 in
theorem lk72_92 : xAt kT72 92 (.return_) 93 := ⟨1, rfl, Or.inr rfl, rfl⟩
set_option maxRecDepth 100000 in
theorem lk73_0 : xAt kT73 0 (.aload_n 0) 1 := ⟨1, rfl, Or.inr rfl, rfl⟩
set_option maxRecDepth 100000 in
theorem lk73_1 : xAt kT73 1 (.getfield 15) 4 := ⟨3, rfl, Or.inr rfl, rfl⟩
set_option maxRecDepth 100000 in
theorem lk73_4 : xAt kT73 4 (.iconst 0) 5 := ⟨1, rfl, Or.inr rfl, rfl⟩
set_option maxRecDepth 100000 in
theorem lk73_5 : xAt kT73 5 (.iload_n 1) 6 := ⟨1, rfl, Or.inr rfl, rfl⟩
set_option maxRecDepth 100000 in
theorem lk73_6 : xAt kT73 6 (.iastore) 7 := ⟨1, rfl, Or.inr rfl, rfl⟩
set_option maxRecDepth 100000 in
theorem lk73_7 : xAt kT73 7 (.aload_n 0) 8 := ⟨1, rfl, Or.inr rfl, rfl⟩
set_option maxRecDepth 100000 in
theorem lk73_8 : xAt kT73 8 (.getfield 15) 11 := ⟨3, rfl, Or.inr rfl, rfl⟩
set_option maxRecDepth 100000 in
theorem lk73_11 : xAt kT73 11 (.iconst 1) 12 := ⟨1, rfl, Or.inr rfl, rfl⟩
set_option maxRecDepth 100000 in
theorem lk73_12 : xAt kT73 12 (.iload_n 2) 13 := ⟨1, rfl, Or.inr rfl, rfl⟩
set_option maxRecDepth 100000 in
theorem lk73_13 : xAt kT73 13 (.iastore) 14 := ⟨1, rfl, Or.inr rfl, rfl⟩
set_option maxRecDepth 100000 in
theorem lk73_14 : xAt kT73 14 (.aload_n 0) 15 := ⟨1, rfl, Or.inr rfl, rfl⟩
set_option maxRecDepth 100000 in
theorem lk73_15 : xAt kT73 15 (.getfield 15) 18 := ⟨3, rfl, Or.inr rfl, rfl⟩
set_option maxRecDepth 100000 in
theorem lk73_18 : xAt kT73 18 (.iconst 2) 19 := ⟨1, rfl, Or.inr rfl, rfl⟩
set_option maxRecDepth 100000 in
theorem lk73_19 : xAt kT73 19 (.iload_n 3) 20 := ⟨1, rfl, Or.inr rfl, rfl⟩
set_option maxRecDepth 100000 in
theorem lk73_20 : xAt kT73 20 (.iastore) 21 := ⟨1, rfl, Or.inr rfl, rfl⟩
set_option maxRecDepth 100000 in
theorem lk73_21 : xAt kT73 21 (.aload_n 0) 22 := ⟨1, rfl, Or.inr rfl, rfl⟩
set_option maxRecDepth 100000 in
theorem lk73_22 : xAt kT73 22 (.getfield 15) 25 := ⟨3, rfl, Or.inr rfl, rfl⟩
set_option maxRecDepth 100000 in
theorem lk73_25 : xAt kT73 25 (.iconst 3) 26 := ⟨1, rfl, Or.inr rfl, rfl⟩
set_option maxRecDepth 100000 in
theorem lk73_26 : xAt kT73 26 (.iload 4) 28 := ⟨2, rfl, Or.inr rfl, rfl⟩
set_option maxRecDepth 100000 in
theorem lk73_28 : xAt kT73 28 (.iastore) 29 := ⟨1, rfl, Or.inr rfl, rfl⟩
set_option maxRecDepth 100000 in
theorem lk73_29 : xAt kT73 29 (.aload_n 0) 30 := ⟨1, rfl, Or.inr rfl, rfl⟩
set_option maxRecDepth 100000 in
theorem lk73_30 : xAt kT73 30 (.getfield 15) 33 := ⟨3, rfl, Or.inr rfl, rfl⟩
set_option maxRecDepth 100000 in
theorem lk73_33 : xAt kT73 33 (.iconst 4) 34 := ⟨1, rfl, Or.inr rfl, rfl⟩
set_option maxRecDepth 100000 in
theorem lk73_34 : xAt kT73 34 (.iload 5) 36 := ⟨2, rfl, Or.inr rfl, rfl⟩
set_option maxRecDepth 100000 in
theorem lk73_36 : xAt kT73 36 (.iastore) 37 := ⟨1, rfl, Or.inr rfl, rfl⟩
set_option maxRecDepth 100000 in
theorem lk73_37 : xAt kT73 37 (.aload_n 0) 38 := ⟨1, rfl, Or.inr rfl, rfl⟩
set_option maxRecDepth 100000 in
theorem lk73_38 : xAt kT73 38 (.getfield 15) 41 := ⟨3, rfl, Or.inr rfl, rfl⟩
set_option maxRecDepth 100000 in
theorem lk73_41 : xAt kT73 41 (.iconst 5) 42 := ⟨1, rfl, Or.inr rfl, rfl⟩
set_option maxRecDepth 100000 in
theorem lk73_42 : xAt kT73 42 (.iload 6) 44 := ⟨2, rfl, Or.inr rfl, rfl⟩
set_option maxRecDepth 100000 in
theorem lk73_44 : xAt kT73 44 (.iastore) 45 := ⟨1, rfl, Or.inr rfl, rfl⟩
set_option maxRecDepth 100000 in
theorem lk73_45 : xAt kT73 45 (.aload_n 0) 46 := ⟨1, rfl, Or.inr rfl, rfl⟩
set_option maxRecDepth 100000 in
theorem lk73_46 : xAt kT73 46 (.getfield 15) 49 := ⟨3, rfl, Or.inr rfl, rfl⟩
set_option maxRecDepth 100000 in
theorem lk73_49 : xAt kT73 49 (.areturn) 50 := ⟨1, rfl, Or.inr rfl, rfl⟩
set_option maxRecDepth 100000 in
theorem lk74_0 : xAt kT74 0 (.iload_n 1) 1 := ⟨1, rfl, Or.inr rfl, rfl⟩
set_option maxRecDepth 100000 in
theorem lk74_1 : xAt kT74 1 (.aload_n 0) 2 := ⟨1, rfl, Or.inr rfl, rfl⟩
set_option maxRecDepth 100000 in
theorem lk74_2 : xAt kT74 2 (.getfield 28) 5 := ⟨3, rfl, Or.inr rfl, rfl⟩
set_option maxRecDepth 100000 in
theorem lk74_5 : xAt kT74 5 (.iconst 1) 6 := ⟨1, rfl, Or.inr rfl, rfl⟩
set_option maxRecDepth 100000 in
theorem lk74_6 : xAt kT74 6 (.iadd) 7 := ⟨1, rfl, Or.inr rfl, rfl⟩
set_option maxRecDepth 100000 in
theorem lk74_7 : xAt kT74 7 (.invokestatic 48) 10 := ⟨3, rfl, Or.inr rfl, rfl⟩
set_option maxRecDepth 100000 in
theorem lk74_10 : xAt kT74 10 (.istore_n 2) 11 := ⟨1, rfl, Or.inr rfl, rfl⟩
set_option maxRecDepth 100000 in
theorem lk74_11 : xAt kT74 11 (.aload_n 0) 12 := ⟨1, rfl, Or.inr rfl, rfl⟩
set_option maxRecDepth 100000 in
theorem lk74_12 : xAt kT74 12 (.iload_n 2) 13 := ⟨1, rfl, Or.inr rfl, rfl⟩
set_option maxRecDepth 100000 in
theorem lk74_13 : xAt kT74 13 (.invokevirtual 54) 16 := ⟨3, rfl, Or.inr rfl, rfl⟩
set_option maxRecDepth 100000 in
theorem lk74_16 : xAt kT74 16 (.istore_n 3) 17 := ⟨1, rfl, Or.inr rfl, rfl⟩
set_option maxRecDepth 100000 in
theorem lk74_17 : xAt kT74 17 (.iload_n 2) 18 := ⟨1, rfl, Or.inr rfl, rfl⟩
set_option maxRecDepth 100000 in
theorem lk74_18 : xAt kT74 18 (.aload_n 0) 19 := ⟨1, rfl, Or.inr rfl, rfl⟩
set_option maxRecDepth 100000 in
theorem lk74_19 : xAt kT74 19 (.getfield 28) 22 := ⟨3, rfl, Or.inr rfl, rfl⟩
set_option maxRecDepth 100000 in
theorem lk74_22 : xAt kT74 22 (.iconst 1) 23 := ⟨1, rfl, Or.inr rfl, rfl⟩
set_option maxRecDepth 100000 in
theorem lk74_23 : xAt kT74 23 (.iadd) 24 := ⟨1, rfl, Or.inr rfl, rfl⟩
set_option maxRecDepth 100000 in
theorem lk74_24 : xAt kT74 24 (.if_icmp .le 20) 27 := ⟨3, rfl, Or.inr rfl, rfl⟩
set_option maxRecDepth 100000 in
theorem lk74_27 : xAt kT74 27 (.aload_n 0) 28 := ⟨1, rfl, Or.inr rfl, rfl⟩
set_option maxRecDepth 100000 in
theorem lk74_28 : xAt kT74 28 (.iload_n 2) 29 := ⟨1, rfl, Or.inr rfl, rfl⟩
set_option maxRecDepth 100000 in
theorem lk74_29 : xAt kT74 29 (.iconst 1) 30 := ⟨1, rfl, Or.inr rfl, rfl⟩
set_option maxRecDepth 100000 in
theorem lk74_30 : xAt kT74 30 (.isub) 31 := ⟨1, rfl, Or.inr rfl, rfl⟩
set_option maxRecDepth 100000 in
theorem lk74_31 : xAt kT74 31 (.invokevirtual 54) 34 := ⟨3, rfl, Or.inr rfl, rfl⟩
set_option maxRecDepth 100000 in
theorem lk74_34 : xAt kT74 34 (.iload_n 3) 35 := ⟨1, rfl, Or.inr rfl, rfl⟩
set_option maxRecDepth 100000 in
theorem lk74_35 : xAt kT74 35 (.if_icmp .ne 9) 38 := ⟨3, rfl, Or.inr rfl, rfl⟩
set_option maxRecDepth 100000 in
theorem lk74_38 : xAt kT74 38 (.iinc 2 (-1)) 41 := ⟨3, rfl, Or.inr rfl, rfl⟩
set_option maxRecDepth 100000 in
theorem lk74_41 : xAt kT74 41 (.goto (-24)) 44 := ⟨3, rfl, Or.inr rfl, rfl⟩
set_option maxRecDepth 100000 in
theorem lk74_44 : xAt kT74 44 (.iload_n 2) 45 := ⟨1, rfl, Or.inr rfl, rfl⟩
set_option maxRecDepth 100000 in
theorem lk74_45 : xAt kT74 45 (.ireturn) 46 := ⟨1, rfl, Or.inr rfl, rfl⟩
set_option maxRecDepth 100000 in
theorem lk111_0 : xAt kT111 0 (.aload_n 0) 1 := ⟨1, rfl, Or.inr rfl, rfl⟩
set_option maxRecDepth 100000 in
theorem lk111_1 : xAt kT111 1 (.getfield 18) 4 := ⟨3, rfl, Or.inr rfl, rfl⟩
set_option maxRecDepth 100000 in
theorem lk111_4 : xAt kT111 4 (.arraylength) 5 := ⟨1, rfl, Or.inr rfl, rfl⟩
set_option maxRecDepth 100000 in
theorem lk111_5 : xAt kT111 5 (.iload_n 1) 6 := ⟨1, rfl, Or.inr rfl, rfl⟩
set_option maxRecDepth 100000 in
theorem lk111_6 : xAt kT111 6 (.if_icmp .ge 14) 9 := ⟨3, rfl, Or.inr rfl, rfl⟩
set_option maxRecDepth 100000 in
theorem lk111_9 : xAt kT111 9 (.aload_n 0) 10 := ⟨1, rfl, Or.inr rfl, rfl⟩
set_option maxRecDepth 100000 in
theorem lk111_10 : xAt kT111 10 (.iload_n 1) 11 := ⟨1, rfl, Or.inr rfl, rfl⟩
set_option maxRecDepth 100000 in
theorem lk111_11 : xAt kT111 11 (.iload_n 1) 12 := ⟨1, rfl, Or.inr rfl, rfl⟩
set_option maxRecDepth 100000 in
theorem lk111_12 : xAt kT111 12 (.iconst 2) 13 := ⟨1, rfl, Or.inr rfl, rfl⟩
set_option maxRecDepth 100000 in
theorem lk111_13 : xAt kT111 13 (.idiv) 14 := ⟨1, rfl, Or.inr rfl, rfl⟩
set_option maxRecDepth 100000 in
theorem lk111_14 : xAt kT111 14 (.iadd) 15 := ⟨1, rfl, Or.inr rfl, rfl⟩
set_option maxRecDepth 100000 in
theorem lk111_15 : xAt kT111 15 (.newarray .byte) 17 := ⟨2, rfl, Or.inr rfl, rfl⟩
set_option maxRecDepth 100000 in
theorem lk111_17 : xAt kT111 17 (.putfield 18) 20 := ⟨3, rfl, Or.inr rfl, rfl⟩
set_option maxRecDepth 100000 in
theorem lk111_20 : xAt kT111 20 (.return_) 21 := ⟨1, rfl, Or.inr rfl, rfl⟩
set_option maxRecDepth 100000 in
theorem lk119_0 : xAt kT119 0 (.iload_n 0) 1 := ⟨1, rfl, Or.inr rfl, rfl⟩
set_option maxRecDepth 100000 in
theorem lk119_1 : xAt kT119 1 (.bipush 31) 3 := ⟨2, rfl, Or.inr rfl, rfl⟩
set_option maxRecDepth 100000 in
theorem lk119_3 : xAt kT119 3 (.iand) 4 := ⟨1, rfl, Or.inr rfl, rfl⟩
set_option maxRecDepth 100000 in
theorem lk119_4 : xAt kT119 4 (.ireturn) 5 := ⟨1, rfl, Or.inr rfl, rfl⟩
set_option maxRecDepth 100000 in
theorem lk115_0 : xAt kT115 0 (.aload_n 0) 1 := ⟨1, rfl, Or.inr rfl, rfl⟩
set_option maxRecDepth 100000 in
theorem lk115_1 : xAt kT115 1 (.getfield 34) 4 := ⟨3, rfl, Or.inr rfl, rfl⟩
set_option maxRecDepth 100000 in
theorem lk115_4 : xAt kT115 4 (.invokestatic 38) 7 := ⟨3, rfl, Or.inr rfl, rfl⟩
set_option maxRecDepth 100000 in
theorem lk115_7 : xAt kT115 7 (.istore 5) 9 := ⟨2, rfl, Or.inr rfl, rfl⟩
set_option maxRecDepth 100000 in
theorem lk115_9 : xAt kT115 9 (.aload_n 0) 10 := ⟨1, rfl, Or.inr rfl, rfl⟩
set_option maxRecDepth 100000 in
theorem lk115_10 : xAt kT115 10 (.dup) 11 := ⟨1, rfl, Or.inr rfl, rfl⟩
set_option maxRecDepth 100000 in
theorem lk115_11 : xAt kT115 11 (.getfield 34) 14 := ⟨3, rfl, Or.inr rfl, rfl⟩
set_option maxRecDepth 100000 in
theorem lk115_14 : xAt kT115 14 (.iconst 1) 15 := ⟨1, rfl, Or.inr rfl, rfl⟩
set_option maxRecDepth 100000 in
theorem lk115_15 : xAt kT115 15 (.iadd) 16 := ⟨1, rfl, Or.inr rfl, rfl⟩
set_option maxRecDepth 100000 in
theorem lk115_16 : xAt kT115 16 (.putfield 34) 19 := ⟨3, rfl, Or.inr rfl, rfl⟩
set_option maxRecDepth 100000 in
theorem lk115_19 : xAt kT115 19 (.aload_n 0) 20 := ⟨1, rfl, Or.inr rfl, rfl⟩
set_option maxRecDepth 100000 in
theorem lk115_20 : xAt kT115 20 (.getfield 9) 23 := ⟨3, rfl, Or.inr rfl, rfl⟩
set_option maxRecDepth 100000 in
theorem lk115_23 : xAt kT115 23 (.iload 5) 25 := ⟨2, rfl, Or.inr rfl, rfl⟩
set_option maxRecDepth 100000 in
theorem lk115_25 : xAt kT115 25 (.baload) 26 := ⟨1, rfl, Or.inr rfl, rfl⟩
set_option maxRecDepth 100000 in
theorem lk115_26 : xAt kT115 26 (.ifCond .ne 13) 29 := ⟨3, rfl, Or.inr rfl, rfl⟩
set_option maxRecDepth 100000 in
theorem lk115_29 : xAt kT115 29 (.aload_n 0) 30 := ⟨1, rfl, Or.inr rfl, rfl⟩
set_option maxRecDepth 100000 in
theorem lk115_30 : xAt kT115 30 (.dup) 31 := ⟨1, rfl, Or.inr rfl, rfl⟩
set_option maxRecDepth 100000 in
theorem lk115_31 : xAt kT115 31 (.getfield 42) 34 := ⟨3, rfl, Or.inr rfl, rfl⟩
set_option maxRecDepth 100000 in
theorem lk115_34 : xAt kT115 34 (.iconst 1) 35 := ⟨1, rfl, Or.inr rfl, rfl⟩
set_option maxRecDepth 100000 in
theorem lk115_35 : xAt kT115 35 (.iadd) 36 := ⟨1, rfl, Or.inr rfl, rfl⟩
set_option maxRecDepth 100000 in
theorem lk115_36 : xAt kT115 36 (.putfield 42) 39 := ⟨3, rfl, Or.inr rfl, rfl⟩
set_option maxRecDepth 100000 in
theorem lk115_39 : xAt kT115 39 (.aload_n 0) 40 := ⟨1, rfl, Or.inr rfl, rfl⟩
set_option maxRecDepth 100000 in
theorem lk115_40 : xAt kT115 40 (.getfield 9) 43 := ⟨3, rfl, Or.inr rfl, rfl⟩
set_option maxRecDepth 100000 in
theorem lk115_43 : xAt kT115 43 (.iload 5) 45 := ⟨2, rfl, Or.inr rfl, rfl⟩
set_option maxRecDepth 100000 in
theorem lk115_45 : xAt kT115 45 (.iconst 1) 46 := ⟨1, rfl, Or.inr rfl, rfl⟩
set_option maxRecDepth 100000 in
theorem lk115_46 : xAt kT115 46 (.bastore) 47 := ⟨1, rfl, Or.inr rfl, rfl⟩
set_option maxRecDepth 100000 in
theorem lk115_47 : xAt kT115 47 (.aload_n 0) 48 := ⟨1, rfl, Or.inr rfl, rfl⟩
set_option maxRecDepth 100000 in
theorem lk115_48 : xAt kT115 48 (.getfield 15) 51 := ⟨3, rfl, Or.inr rfl, rfl⟩
set_option maxRecDepth 100000 in
theorem lk115_51 : xAt kT115 51 (.iload 5) 53 := ⟨2, rfl, Or.inr rfl, rfl⟩
set_option maxRecDepth 100000 in
theorem lk115_53 : xAt kT115 53 (.aload_n 1) 54 := ⟨1, rfl, Or.inr rfl, rfl⟩
set_option maxRecDepth 100000 in
theorem lk115_54 : xAt kT115 54 (.getfield 45) 57 := ⟨3, rfl, Or.inr rfl, rfl⟩
set_option maxRecDepth 100000 in
theorem lk115_57 : xAt kT115 57 (.iastore) 58 := ⟨1, rfl, Or.inr rfl, rfl⟩
set_option maxRecDepth 100000 in
theorem lk115_58 : xAt kT115 58 (.aload_n 0) 59 := ⟨1, rfl, Or.inr rfl, rfl⟩
set_option maxRecDepth 100000 in
theorem lk115_59 : xAt kT115 59 (.getfield 19) 62 := ⟨3, rfl, Or.inr rfl, rfl⟩
set_option maxRecDepth 100000 in
theorem lk115_62 : xAt kT115 62 (.iload 5) 64 := ⟨2, rfl, Or.inr rfl, rfl⟩
set_option maxRecDepth 100000 in
theorem lk115_64 : xAt kT115 64 (.aload_n 1) 65 := ⟨1, rfl, Or.inr rfl, rfl⟩
set_option maxRecDepth 100000 in
theorem lk115_65 : xAt kT115 65 (.getfield 50) 68 := ⟨3, rfl, Or.inr rfl, rfl⟩
set_option maxRecDepth 100000 in
theorem lk115_68 : xAt kT115 68 (.iastore) 69 := ⟨1, rfl, Or.inr rfl, rfl⟩
set_option maxRecDepth 100000 in
theorem lk115_69 : xAt kT115 69 (.aload_n 0) 70 := ⟨1, rfl, Or.inr rfl, rfl⟩
set_option maxRecDepth 100000 in
theorem lk115_70 : xAt kT115 70 (.getfield 22) 73 := ⟨3, rfl, Or.inr rfl, rfl⟩
set_option maxRecDepth 100000 in
theorem lk115_73 : xAt kT115 73 (.iload 5) 75 := ⟨2, rfl, Or.inr rfl, rfl⟩
set_option maxRecDepth 100000 in
theorem lk115_75 : xAt kT115 75 (.aload_n 1) 76 := ⟨1, rfl, Or.inr rfl, rfl⟩
set_option maxRecDepth 100000 in
theorem lk115_76 : xAt kT115 76 (.getfield 52) 79 := ⟨3, rfl, Or.inr rfl, rfl⟩
set_option maxRecDepth 100000 in
theorem lk115_79 : xAt kT115 79 (.iastore) 80 := ⟨1, rfl, Or.inr rfl, rfl⟩
set_option maxRecDepth 100000 in
theorem lk115_80 : xAt kT115 80 (.aload_n 0) 81 := ⟨1, rfl, Or.inr rfl, rfl⟩
set_option maxRecDepth 100000 in
theorem lk115_81 : xAt kT115 81 (.getfield 25) 84 := ⟨3, rfl, Or.inr rfl, rfl⟩
set_option maxRecDepth 100000 in
theorem lk115_84 : xAt kT115 84 (.iload 5) 86 := ⟨2, rfl, Or.inr rfl, rfl⟩
set_option maxRecDepth 100000 in
theorem lk115_86 : xAt kT115 86 (.iload_n 2) 87 := ⟨1, rfl, Or.inr rfl, rfl⟩
set_option maxRecDepth 100000 in
theorem lk115_87 : xAt kT115 87 (.iastore) 88 := ⟨1, rfl, Or.inr rfl, rfl⟩
set_option maxRecDepth 100000 in
theorem lk115_88 : xAt kT115 88 (.aload_n 0) 89 := ⟨1, rfl, Or.inr rfl, rfl⟩
set_option maxRecDepth 100000 in
theorem lk115_89 : xAt kT115 89 (.getfield 28) 92 := ⟨3, rfl, Or.inr rfl, rfl⟩
set_option maxRecDepth 100000 in
theorem lk115_92 : xAt kT115 92 (.iload 5) 94 := ⟨2, rfl, Or.inr rfl, rfl⟩
set_option maxRecDepth 100000 in
theorem lk115_94 : xAt kT115 94 (.iload_n 3) 95 := ⟨1, rfl, Or.inr rfl, rfl⟩
set_option maxRecDepth 100000 in
theorem lk115_95 : xAt kT115 95 (.iastore) 96 := ⟨1, rfl, Or.inr rfl, rfl⟩
set_option maxRecDepth 100000 in
theorem lk115_96 : xAt kT115 96 (.aload_n 0) 97 := ⟨1, rfl, Or.inr rfl, rfl⟩
set_option maxRecDepth 100000 in
theorem lk115_97 : xAt kT115 97 (.getfield 31) 100 := ⟨3, rfl, Or.inr rfl, rfl⟩
set_option maxRecDepth 100000 in
theorem lk115_100 : xAt kT115 100 (.iload 5) 102 := ⟨2, rfl, Or.inr rfl, rfl⟩
set_option maxRecDepth 100000 in
theorem lk115_102 : xAt kT115 102 (.iload 4) 104 := ⟨2, rfl, Or.inr rfl, rfl⟩
set_option maxRecDepth 100000 in
theorem lk115_104 : xAt kT115 104 (.iastore) 105 := ⟨1, rfl, Or.inr rfl, rfl⟩
set_option maxRecDepth 100000 in
theorem lk115_105 : xAt kT115 105 (.return_) 106 := ⟨1, rfl, Or.inr rfl, rfl⟩
set_option maxRecDepth 100000 in
theorem lk116_0 : xAt kT116 0 (.aload_n 0) 1 := ⟨1, rfl, Or.inr rfl, rfl⟩
set_option maxRecDepth 100000 in
theorem lk116_1 : xAt kT116 1 (.getfield 9) 4 := ⟨3, rfl, Or.inr rfl, rfl⟩
set_option maxRecDepth 100000 in
theorem lk116_4 : xAt kT116 4 (.iload_n 1) 5 := ⟨1, rfl, Or.inr rfl, rfl⟩
set_option maxRecDepth 100000 in
theorem lk116_5 : xAt kT116 5 (.baload) 6 := ⟨1, rfl, Or.inr rfl, rfl⟩
set_option maxRecDepth 100000 in
theorem lk116_6 : xAt kT116 6 (.ifCond .eq 20) 9 := ⟨3, rfl, Or.inr rfl, rfl⟩
set_option maxRecDepth 100000 in
theorem lk116_9 : xAt kT116 9 (.aload_n 0) 10 := ⟨1, rfl, Or.inr rfl, rfl⟩
set_option maxRecDepth 100000 in
theorem lk116_10 : xAt kT116 10 (.getfield 9) 13 := ⟨3, rfl, Or.inr rfl, rfl⟩
set_option maxRecDepth 100000 in
theorem lk116_13 : xAt kT116 13 (.iload_n 1) 14 := ⟨1, rfl, Or.inr rfl, rfl⟩
set_option maxRecDepth 100000 in
theorem lk116_14 : xAt kT116 14 (.iconst 0) 15 := ⟨1, rfl, Or.inr rfl, rfl⟩
set_option maxRecDepth 100000 in
theorem lk116_15 : xAt kT116 15 (.bastore) 16 := ⟨1, rfl, Or.inr rfl, rfl⟩
set_option maxRecDepth 100000 in
theorem lk116_16 : xAt kT116 16 (.aload_n 0) 17 := ⟨1, rfl, Or.inr rfl, rfl⟩
set_option maxRecDepth 100000 in
theorem lk116_17 : xAt kT116 17 (.dup) 18 := ⟨1, rfl, Or.inr rfl, rfl⟩
set_option maxRecDepth 100000 in
theorem lk116_18 : xAt kT116 18 (.getfield 42) 21 := ⟨3, rfl, Or.inr rfl, rfl⟩
set_option maxRecDepth 100000 in
theorem lk116_21 : xAt kT116 21 (.iconst 1) 22 := ⟨1, rfl, Or.inr rfl, rfl⟩
set_option maxRecDepth 100000 in
theorem lk116_22 : xAt kT116 22 (.isub) 23 := ⟨1, rfl, Or.inr rfl, rfl⟩
set_option maxRecDepth 100000 in
theorem lk116_23 : xAt kT116 23 (.putfield 42) 26 := ⟨3, rfl, Or.inr rfl, rfl⟩
set_option maxRecDepth 100000 in
theorem lk116_26 : xAt kT116 26 (.return_) 27 := ⟨1, rfl, Or.inr rfl, rfl⟩
set_option maxRecDepth 100000 in
theorem lk117_0 : xAt kT117 0 (.iconst 0) 1 := ⟨1, rfl, Or.inr rfl, rfl⟩
set_option maxRecDepth 100000 in
theorem lk117_1 : xAt kT117 1 (.istore_n 1) 2 := ⟨1, rfl, Or.inr rfl, rfl⟩
set_option maxRecDepth 100000 in
theorem lk117_2 : xAt kT117 2 (.iload_n 1) 3 := ⟨1, rfl, Or.inr rfl, rfl⟩
set_option maxRecDepth 100000 in
theorem lk117_3 : xAt kT117 3 (.bipush 32) 5 := ⟨2, rfl, Or.inr rfl, rfl⟩
set_option maxRecDepth 100000 in
theorem lk117_5 : xAt kT117 5 (.if_icmp .ge 16) 8 := ⟨3, rfl, Or.inr rfl, rfl⟩
set_option maxRecDepth 100000 in
theorem lk117_8 : xAt kT117 8 (.aload_n 0) 9 := ⟨1, rfl, Or.inr rfl, rfl⟩
set_option maxRecDepth 100000 in
theorem lk117_9 : xAt kT117 9 (.getfield 9) 12 := ⟨3, rfl, Or.inr rfl, rfl⟩
set_option maxRecDepth 100000 in
theorem lk117_12 : xAt kT117 12 (.iload_n 1) 13 := ⟨1, rfl, Or.inr rfl, rfl⟩
set_option maxRecDepth 100000 in
theorem lk117_13 : xAt kT117 13 (.iconst 0) 14 := ⟨1, rfl, Or.inr rfl, rfl⟩
set_option maxRecDepth 100000 in
theorem lk117_14 : xAt kT117 14 (.bastore) 15 := ⟨1, rfl, Or.inr rfl, rfl⟩
set_option maxRecDepth 100000 in
theorem lk117_15 : xAt kT117 15 (.iinc 1 1) 18 := ⟨3, rfl, Or.inr rfl, rfl⟩
set_option maxRecDepth 100000 in
theorem lk117_18 : xAt kT117 18 (.goto (-16)) 21 := ⟨3, rfl, Or.inr rfl, rfl⟩
set_option maxRecDepth 100000 in
theorem lk117_21 : xAt kT117 21 (.aload_n 0) 22 := ⟨1, rfl, Or.inr rfl, rfl⟩
set_option maxRecDepth 100000 in
theorem lk117_22 : xAt kT117 22 (.iconst 0) 23 := ⟨1, rfl, Or.inr rfl, rfl⟩
set_option maxRecDepth 100000 in
theorem lk117_23 : xAt kT117 23 (.putfield 42) 26 := ⟨3, rfl, Or.inr rfl, rfl⟩
set_option maxRecDepth 100000 in
theorem lk117_26 : xAt kT117 26 (.return_) 27 := ⟨1, rfl, Or.inr rfl, rfl⟩
set_option maxRecDepth 100000 in
theorem lk120_0 : xAt kT120 0 (.iconst 0) 1 := ⟨1, rfl, Or.inr rfl, rfl⟩
set_option maxRecDepth 100000 in
theorem lk120_1 : xAt kT120 1 (.istore_n 2) 2 := ⟨1, rfl, Or.inr rfl, rfl⟩
set_option maxRecDepth 100000 in
theorem lk120_2 : xAt kT120 2 (.aload_n 0) 3 := ⟨1, rfl, Or.inr rfl, rfl⟩
set_option maxRecDepth 100000 in
theorem lk120_3 : xAt kT120 3 (.getfield 42) 6 := ⟨3, rfl, Or.inr rfl, rfl⟩
set_option maxRecDepth 100000 in
theorem lk120_6 : xAt kT120 6 (.ifCond .le 46) 9 := ⟨3, rfl, Or.inr rfl, rfl⟩
set_option maxRecDepth 100000 in
theorem lk120_9 : xAt kT120 9 (.iload_n 2) 10 := ⟨1, rfl, Or.inr rfl, rfl⟩
set_option maxRecDepth 100000 in
theorem lk120_10 : xAt kT120 10 (.bipush 32) 12 := ⟨2, rfl, Or.inr rfl, rfl⟩
set_option maxRecDepth 100000 in
theorem lk120_12 : xAt kT120 12 (.if_icmp .ge 40) 15 := ⟨3, rfl, Or.inr rfl, rfl⟩
set_option maxRecDepth 100000 in
theorem lk120_15 : xAt kT120 15 (.aload_n 0) 16 := ⟨1, rfl, Or.inr rfl, rfl⟩
set_option maxRecDepth 100000 in
theorem lk120_16 : xAt kT120 16 (.getfield 9) 19 := ⟨3, rfl, Or.inr rfl, rfl⟩
set_option maxRecDepth 100000 in
theorem lk120_19 : xAt kT120 19 (.iload_n 2) 20 := ⟨1, rfl, Or.inr rfl, rfl⟩
set_option maxRecDepth 100000 in
theorem lk120_20 : xAt kT120 20 (.baload) 21 := ⟨1, rfl, Or.inr rfl, rfl⟩
set_option maxRecDepth 100000 in
theorem lk120_21 : xAt kT120 21 (.ifCond .eq 25) 24 := ⟨3, rfl, Or.inr rfl, rfl⟩
set_option maxRecDepth 100000 in
theorem lk120_24 : xAt kT120 24 (.aload_n 0) 25 := ⟨1, rfl, Or.inr rfl, rfl⟩
set_option maxRecDepth 100000 in
theorem lk120_25 : xAt kT120 25 (.getfield 31) 28 := ⟨3, rfl, Or.inr rfl, rfl⟩
set_option maxRecDepth 100000 in
theorem lk120_28 : xAt kT120 28 (.iload_n 2) 29 := ⟨1, rfl, Or.inr rfl, rfl⟩
set_option maxRecDepth 100000 in
theorem lk120_29 : xAt kT120 29 (.iaload) 30 := ⟨1, rfl, Or.inr rfl, rfl⟩
set_option maxRecDepth 100000 in
theorem lk120_30 : xAt kT120 30 (.iconst (-1)) 31 := ⟨1, rfl, Or.inr rfl, rfl⟩
set_option maxRecDepth 100000 in
theorem lk120_31 : xAt kT120 31 (.if_icmp .ne 15) 34 := ⟨3, rfl, Or.inr rfl, rfl⟩
set_option maxRecDepth 100000 in
theorem lk120_34 : xAt kT120 34 (.aload_n 0) 35 := ⟨1, rfl, Or.inr rfl, rfl⟩
set_option maxRecDepth 100000 in
theorem lk120_35 : xAt kT120 35 (.getfield 25) 38 := ⟨3, rfl, Or.inr rfl, rfl⟩
set_option maxRecDepth 100000 in
theorem lk120_38 : xAt kT120 38 (.iload_n 2) 39 := ⟨1, rfl, Or.inr rfl, rfl⟩
set_option maxRecDepth 100000 in
theorem lk120_39 : xAt kT120 39 (.iaload) 40 := ⟨1, rfl, Or.inr rfl, rfl⟩
set_option maxRecDepth 100000 in
theorem lk120_40 : xAt kT120 40 (.iload_n 1) 41 := ⟨1, rfl, Or.inr rfl, rfl⟩
set_option maxRecDepth 100000 in
theorem lk120_41 : xAt kT120 41 (.if_icmp .ne 5) 44 := ⟨3, rfl, Or.inr rfl, rfl⟩
set_option maxRecDepth 100000 in
theorem lk120_44 : xAt kT120 44 (.iload_n 2) 45 := ⟨1, rfl, Or.inr rfl, rfl⟩
set_option maxRecDepth 100000 in
theorem lk120_45 : xAt kT120 45 (.ireturn) 46 := ⟨1, rfl, Or.inr rfl, rfl⟩
set_option maxRecDepth 100000 in
theorem lk120_46 : xAt kT120 46 (.iinc 2 1) 49 := ⟨3, rfl, Or.inr rfl, rfl⟩
set_option maxRecDepth 100000 in
theorem lk120_49 : xAt kT120 49 (.goto (-47)) 52 := ⟨3, rfl, Or.inr rfl, rfl⟩
set_option maxRecDepth 100000 in
theorem lk120_52 : xAt kT120 52 (.iconst (-1)) 53 := ⟨1, rfl, Or.inr rfl, rfl⟩
set_option maxRecDepth 100000 in
theorem lk120_53 : xAt kT120 53 (.ireturn) 54 := ⟨1, rfl, Or.inr rfl, rfl⟩
set_option maxRecDepth 100000 in
theorem lk398_0 : xAt kT398 0 (.iload_n 0) 1 := ⟨1, rfl, Or.inr rfl, rfl⟩
set_option maxRecDepth 100000 in
theorem lk398_1 : xAt kT398 1 (.iload_n 0) 2 := ⟨1, rfl, Or.inr rfl, rfl⟩
set_option maxRecDepth 100000 in
theorem lk398_2 : xAt kT398 2 (.iconst 1) 3 := ⟨1, rfl, Or.inr rfl, rfl⟩
set_option maxRecDepth 100000 in
theorem lk398_3 : xAt kT398 3 (.iushr) 4 := ⟨1, rfl, Or.inr rfl, rfl⟩
set_option maxRecDepth 100000 in
theorem lk398_4 : xAt kT398 4 (.ldc_w 265) 7 := ⟨3, rfl, Or.inr rfl, rfl⟩
set_option maxRecDepth 100000 in
theorem lk398_7 : xAt kT398 7 (.iand) 8 := ⟨1, rfl, Or.inr rfl, rfl⟩
set_option maxRecDepth 100000 in
theorem lk398_8 : xAt kT398 8 (.isub) 9 := ⟨1, rfl, Or.inr rfl, rfl⟩
set_option maxRecDepth 100000 in
theorem lk398_9 : xAt kT398 9 (.istore_n 0) 10 := ⟨1, rfl, Or.inr rfl, rfl⟩
set_option maxRecDepth 100000 in
theorem lk398_10 : xAt kT398 10 (.iload_n 0) 11 := ⟨1, rfl, Or.inr rfl, rfl⟩
set_option maxRecDepth 100000 in
theorem lk398_11 : xAt kT398 11 (.ldc_w 266) 14 := ⟨3, rfl, Or.inr rfl, rfl⟩
set_option maxRecDepth 100000 in
theorem lk398_14 : xAt kT398 14 (.iand) 15 := ⟨1, rfl, Or.inr rfl, rfl⟩
set_option maxRecDepth 100000 in
theorem lk398_15 : xAt kT398 15 (.iload_n 0) 16 := ⟨1, rfl, Or.inr rfl, rfl⟩
set_option maxRecDepth 100000 in
theorem lk398_16 : xAt kT398 16 (.iconst 2) 17 := ⟨1, rfl, Or.inr rfl, rfl⟩
set_option maxRecDepth 100000 in
theorem lk398_17 : xAt kT398 17 (.iushr) 18 := ⟨1, rfl, Or.inr rfl, rfl⟩
set_option maxRecDepth 100000 in
theorem lk398_18 : xAt kT398 18 (.ldc_w 266) 21 := ⟨3, rfl, Or.inr rfl, rfl⟩
set_option maxRecDepth 100000 in
theorem lk398_21 : xAt kT398 21 (.iand) 22 := ⟨1, rfl, Or.inr rfl, rfl⟩
set_option maxRecDepth 100000 in
theorem lk398_22 : xAt kT398 22 (.iadd) 23 := ⟨1, rfl, Or.inr rfl, rfl⟩
set_option maxRecDepth 100000 in
theorem lk398_23 : xAt kT398 23 (.istore_n 0) 24 := ⟨1, rfl, Or.inr rfl, rfl⟩
set_option maxRecDepth 100000 in
theorem lk398_24 : xAt kT398 24 (.iload_n 0) 25 := ⟨1, rfl, Or.inr rfl, rfl⟩
set_option maxRecDepth 100000 in
theorem lk398_25 : xAt kT398 25 (.iload_n 0) 26 := ⟨1, rfl, Or.inr rfl, rfl⟩
set_option maxRecDepth 100000 in
theorem lk398_26 : xAt kT398 26 (.iconst 4) 27 := ⟨1, rfl, Or.inr rfl, rfl⟩
set_option maxRecDepth 100000 in
theorem lk398_27 : xAt kT398 27 (.iushr) 28 := ⟨1, rfl, Or.inr rfl, rfl⟩
set_option maxRecDepth 100000 in
theorem lk398_28 : xAt kT398 28 (.iadd) 29 := ⟨1, rfl, Or.inr rfl, rfl⟩
set_option maxRecDepth 100000 in
theorem lk398_29 : xAt kT398 29 (.ldc_w 267) 32 := ⟨3, rfl, Or.inr rfl, rfl⟩
set_option maxRecDepth 100000 in
theorem lk398_32 : xAt kT398 32 (.iand) 33 := ⟨1, rfl, Or.inr rfl, rfl⟩
set_option maxRecDepth 100000 in
theorem lk398_33 : xAt kT398 33 (.istore_n 0) 34 := ⟨1, rfl, Or.inr rfl, rfl⟩
set_option maxRecDepth 100000 in
theorem lk398_34 : xAt kT398 34 (.iload_n 0) 35 := ⟨1, rfl, Or.inr rfl, rfl⟩
set_option maxRecDepth 100000 in
theorem lk398_35 : xAt kT398 35 (.iload_n 0) 36 := ⟨1, rfl, Or.inr rfl, rfl⟩
set_option maxRecDepth 100000 in
theorem lk398_36 : xAt kT398 36 (.bipush 8) 38 := ⟨2, rfl, Or.inr rfl, rfl⟩
set_option maxRecDepth 100000 in
theorem lk398_38 : xAt kT398 38 (.iushr) 39 := ⟨1, rfl, Or.inr rfl, rfl⟩
set_option maxRecDepth 100000 in
theorem lk398_39 : xAt kT398 39 (.iadd) 40 := ⟨1, rfl, Or.inr rfl, rfl⟩
set_option maxRecDepth 100000 in
theorem lk398_40 : xAt kT398 40 (.istore_n 0) 41 := ⟨1, rfl, Or.inr rfl, rfl⟩
set_option maxRecDepth 100000 in
theorem lk398_41 : xAt kT398 41 (.iload_n 0) 42 := ⟨1, rfl, Or.inr rfl, rfl⟩
set_option maxRecDepth 100000 in
theorem lk398_42 : xAt kT398 42 (.iload_n 0) 43 := ⟨1, rfl, Or.inr rfl, rfl⟩
set_option maxRecDepth 100000 in
theorem lk398_43 : xAt kT398 43 (.bipush 16) 45 := ⟨2, rfl, Or.inr rfl, rfl⟩
set_option maxRecDepth 100000 in
theorem lk398_45 : xAt kT398 45 (.iushr) 46 := ⟨1, rfl, Or.inr rfl, rfl⟩
set_option maxRecDepth 100000 in
theorem lk398_46 : xAt kT398 46 (.iadd) 47 := ⟨1, rfl, Or.inr rfl, rfl⟩
set_option maxRecDepth 100000 in
theorem lk398_47 : xAt kT398 47 (.istore_n 0) 48 := ⟨1, rfl, Or.inr rfl, rfl⟩
set_option maxRecDepth 100000 in
theorem lk398_48 : xAt kT398 48 (.iload_n 0) 49 := ⟨1, rfl, Or.inr rfl, rfl⟩
set_option maxRecDepth 100000 in
theorem lk398_49 : xAt kT398 49 (.bipush 63) 51 := ⟨2, rfl, Or.inr rfl, rfl⟩
set_option maxRecDepth 100000 in
theorem lk398_51 : xAt kT398 51 (.iand) 52 := ⟨1, rfl, Or.inr rfl, rfl⟩
set_option maxRecDepth 100000 in
theorem lk398_52 : xAt kT398 52 (.ireturn) 53 := ⟨1, rfl, Or.inr rfl, rfl⟩
set_option maxRecDepth 100000 in
theorem lk56_0 : xAt kT56 0 (.iconst 0) 1 := ⟨1, rfl, Or.inr rfl, rfl⟩
set_option maxRecDepth 100000 in
theorem lk56_1 : xAt kT56 1 (.istore_n 3) 2 := ⟨1, rfl, Or.inr rfl, rfl⟩
set_option maxRecDepth 100000 in
theorem lk56_2 : xAt kT56 2 (.iconst 0) 3 := ⟨1, rfl, Or.inr rfl, rfl⟩
set_option maxRecDepth 100000 in
theorem lk56_3 : xAt kT56 3 (.istore 4) 5 := ⟨2, rfl, Or.inr rfl, rfl⟩
set_option maxRecDepth 100000 in
theorem lk56_5 : xAt kT56 5 (.iload 4) 7 := ⟨2, rfl, Or.inr rfl, rfl⟩
set_option maxRecDepth 100000 in
theorem lk56_7 : xAt kT56 7 (.bipush 7) 9 := ⟨2, rfl, Or.inr rfl, rfl⟩
set_option maxRecDepth 100000 in
theorem lk56_9 : xAt kT56 9 (.if_icmp .ge 29) 12 := ⟨3, rfl, Or.inr rfl, rfl⟩
set_option maxRecDepth 100000 in
theorem lk56_12 : xAt kT56 12 (.iload_n 1) 13 := ⟨1, rfl, Or.inr rfl, rfl⟩
set_option maxRecDepth 100000 in
theorem lk56_13 : xAt kT56 13 (.iload 4) 15 := ⟨2, rfl, Or.inr rfl, rfl⟩
set_option maxRecDepth 100000 in
theorem lk56_15 : xAt kT56 15 (.ishr) 16 := ⟨1, rfl, Or.inr rfl, rfl⟩
set_option maxRecDepth 100000 in
theorem lk56_16 : xAt kT56 16 (.iconst 1) 17 := ⟨1, rfl, Or.inr rfl, rfl⟩
set_option maxRecDepth 100000 in
theorem lk56_17 : xAt kT56 17 (.iand) 18 := ⟨1, rfl, Or.inr rfl, rfl⟩
set_option maxRecDepth 100000 in
theorem lk56_18 : xAt kT56 18 (.ifCond .eq 14) 21 := ⟨3, rfl, Or.inr rfl, rfl⟩
set_option maxRecDepth 100000 in
theorem lk56_21 : xAt kT56 21 (.aload_n 0) 22 := ⟨1, rfl, Or.inr rfl, rfl⟩
set_option maxRecDepth 100000 in
theorem lk56_22 : xAt kT56 22 (.iload 4) 24 := ⟨2, rfl, Or.inr rfl, rfl⟩
set_option maxRecDepth 100000 in
theorem lk56_24 : xAt kT56 24 (.iaload) 25 := ⟨1, rfl, Or.inr rfl, rfl⟩
set_option maxRecDepth 100000 in
theorem lk56_25 : xAt kT56 25 (.iload_n 2) 26 := ⟨1, rfl, Or.inr rfl, rfl⟩
set_option maxRecDepth 100000 in
theorem lk56_26 : xAt kT56 26 (.if_icmp .lt 6) 29 := ⟨3, rfl, Or.inr rfl, rfl⟩
set_option maxRecDepth 100000 in
theorem lk56_29 : xAt kT56 29 (.iinc 3 1) 32 := ⟨3, rfl, Or.inr rfl, rfl⟩
set_option maxRecDepth 100000 in
theorem lk56_32 : xAt kT56 32 (.iinc 4 1) 35 := ⟨3, rfl, Or.inr rfl, rfl⟩
set_option maxRecDepth 100000 in
theorem lk56_35 : xAt kT56 35 (.goto (-30)) 38 := ⟨3, rfl, Or.inr rfl, rfl⟩
set_option maxRecDepth 100000 in
theorem lk56_38 : xAt kT56 38 (.iconst 2) 39 := ⟨1, rfl, Or.inr rfl, rfl⟩
set_option maxRecDepth 100000 in
theorem lk56_39 : xAt kT56 39 (.iload_n 3) 40 := ⟨1, rfl, Or.inr rfl, rfl⟩
set_option maxRecDepth 100000 in
theorem lk56_40 : xAt kT56 40 (.imul) 41 := ⟨1, rfl, Or.inr rfl, rfl⟩
set_option maxRecDepth 100000 in
theorem lk56_41 : xAt kT56 41 (.iload_n 1) 42 := ⟨1, rfl, Or.inr rfl, rfl⟩
set_option maxRecDepth 100000 in
theorem lk56_42 : xAt kT56 42 (.invokestatic 68) 45 := ⟨3, rfl, Or.inr rfl, rfl⟩
set_option maxRecDepth 100000 in
theorem lk56_45 : xAt kT56 45 (.if_icmp .le 7) 48 := ⟨3, rfl, Or.inr rfl, rfl⟩
set_option maxRecDepth 100000 in
theorem lk56_48 : xAt kT56 48 (.iconst 1) 49 := ⟨1, rfl, Or.inr rfl, rfl⟩
set_option maxRecDepth 100000 in
theorem lk56_49 : xAt kT56 49 (.goto 4) 52 := ⟨3, rfl, Or.inr rfl, rfl⟩
set_option maxRecDepth 100000 in
theorem lk56_52 : xAt kT56 52 (.iconst 0) 53 := ⟨1, rfl, Or.inr rfl, rfl⟩
set_option maxRecDepth 100000 in
theorem lk56_53 : xAt kT56 53 (.ireturn) 54 := ⟨1, rfl, Or.inr rfl, rfl⟩
set_option maxRecDepth 100000 in
theorem lk58_0 : xAt kT58 0 (.ldc 63) 2 := ⟨2, rfl, Or.inr rfl, rfl⟩
set_option maxRecDepth 100000 in
theorem lk58_2 : xAt kT58 2 (.istore_n 2) 3 := ⟨1, rfl, Or.inr rfl, rfl⟩
set_option maxRecDepth 100000 in
theorem lk58_3 : xAt kT58 3 (.iconst 0) 4 := ⟨1, rfl, Or.inr rfl, rfl⟩
set_option maxRecDepth 100000 in
theorem lk58_4 : xAt kT58 4 (.istore_n 3) 5 := ⟨1, rfl, Or.inr rfl, rfl⟩
set_option maxRecDepth 100000 in
theorem lk58_5 : xAt kT58 5 (.iload_n 3) 6 := ⟨1, rfl, Or.inr rfl, rfl⟩
set_option maxRecDepth 100000 in
theorem lk58_6 : xAt kT58 6 (.bipush 7) 8 := ⟨2, rfl, Or.inr rfl, rfl⟩
set_option maxRecDepth 100000 in
theorem lk58_8 : xAt kT58 8 (.if_icmp .ge 39) 11 := ⟨3, rfl, Or.inr rfl, rfl⟩
set_option maxRecDepth 100000 in
theorem lk58_11 : xAt kT58 11 (.iload_n 1) 12 := ⟨1, rfl, Or.inr rfl, rfl⟩
set_option maxRecDepth 100000 in
theorem lk58_12 : xAt kT58 12 (.iload_n 3) 13 := ⟨1, rfl, Or.inr rfl, rfl⟩
set_option maxRecDepth 100000 in
theorem lk58_13 : xAt kT58 13 (.ishr) 14 := ⟨1, rfl, Or.inr rfl, rfl⟩
set_option maxRecDepth 100000 in
theorem lk58_14 : xAt kT58 14 (.iconst 1) 15 := ⟨1, rfl, Or.inr rfl, rfl⟩
set_option maxRecDepth 100000 in
theorem lk58_15 : xAt kT58 15 (.iand) 16 := ⟨1, rfl, Or.inr rfl, rfl⟩
set_option maxRecDepth 100000 in
theorem lk58_16 : xAt kT58 16 (.ifCond .eq 25) 19 := ⟨3, rfl, Or.inr rfl, rfl⟩
set_option maxRecDepth 100000 in
theorem lk58_19 : xAt kT58 19 (.aload_n 0) 20 := ⟨1, rfl, Or.inr rfl, rfl⟩
set_option maxRecDepth 100000 in
theorem lk58_20 : xAt kT58 20 (.iload_n 3) 21 := ⟨1, rfl, Or.inr rfl, rfl⟩
set_option maxRecDepth 100000 in
theorem lk58_21 : xAt kT58 21 (.iaload) 22 := ⟨1, rfl, Or.inr rfl, rfl⟩
set_option maxRecDepth 100000 in
theorem lk58_22 : xAt kT58 22 (.iload_n 2) 23 := ⟨1, rfl, Or.inr rfl, rfl⟩
set_option maxRecDepth 100000 in
theorem lk58_23 : xAt kT58 23 (.if_icmp .le 18) 26 := ⟨3, rfl, Or.inr rfl, rfl⟩
set_option maxRecDepth 100000 in
theorem lk58_26 : xAt kT58 26 (.aload_n 0) 27 := ⟨1, rfl, Or.inr rfl, rfl⟩
set_option maxRecDepth 100000 in
theorem lk58_27 : xAt kT58 27 (.iload_n 1) 28 := ⟨1, rfl, Or.inr rfl, rfl⟩
set_option maxRecDepth 100000 in
theorem lk58_28 : xAt kT58 28 (.aload_n 0) 29 := ⟨1, rfl, Or.inr rfl, rfl⟩
set_option maxRecDepth 100000 in
theorem lk58_29 : xAt kT58 29 (.iload_n 3) 30 := ⟨1, rfl, Or.inr rfl, rfl⟩
set_option maxRecDepth 100000 in
theorem lk58_30 : xAt kT58 30 (.iaload) 31 := ⟨1, rfl, Or.inr rfl, rfl⟩
set_option maxRecDepth 100000 in
theorem lk58_31 : xAt kT58 31 (.invokestatic 64) 34 := ⟨3, rfl, Or.inr rfl, rfl⟩
set_option maxRecDepth 100000 in
theorem lk58_34 : xAt kT58 34 (.ifCond .eq 7) 37 := ⟨3, rfl, Or.inr rfl, rfl⟩
set_option maxRecDepth 100000 in
theorem lk58_37 : xAt kT58 37 (.aload_n 0) 38 := ⟨1, rfl, Or.inr rfl, rfl⟩
set_option maxRecDepth 100000 in
theorem lk58_38 : xAt kT58 38 (.iload_n 3) 39 := ⟨1, rfl, Or.inr rfl, rfl⟩
set_option maxRecDepth 100000 in
theorem lk58_39 : xAt kT58 39 (.iaload) 40 := ⟨1, rfl, Or.inr rfl, rfl⟩
set_option maxRecDepth 100000 in
theorem lk58_40 : xAt kT58 40 (.istore_n 2) 41 := ⟨1, rfl, Or.inr rfl, rfl⟩
set_option maxRecDepth 100000 in
theorem lk58_41 : xAt kT58 41 (.iinc 3 1) 44 := ⟨3, rfl, Or.inr rfl, rfl⟩
set_option maxRecDepth 100000 in
theorem lk58_44 : xAt kT58 44 (.goto (-39)) 47 := ⟨3, rfl, Or.inr rfl, rfl⟩
set_option maxRecDepth 100000 in
theorem lk58_47 : xAt kT58 47 (.iload_n 2) 48 := ⟨1, rfl, Or.inr rfl, rfl⟩
set_option maxRecDepth 100000 in
theorem lk58_48 : xAt kT58 48 (.ireturn) 49 := ⟨1, rfl, Or.inr rfl, rfl⟩
set_option maxRecDepth 100000 in
theorem lk57_0 : xAt kT57 0 (.aload_n 0) 1 := ⟨1, rfl, Or.inr rfl, rfl⟩
set_option maxRecDepth 100000 in
theorem lk57_1 : xAt kT57 1 (.iload_n 1) 2 := ⟨1, rfl, Or.inr rfl, rfl⟩
set_option maxRecDepth 100000 in
theorem lk57_2 : xAt kT57 2 (.bipush 127) 4 := ⟨2, rfl, Or.inr rfl, rfl⟩
set_option maxRecDepth 100000 in
theorem lk57_4 : xAt kT57 4 (.iand) 5 := ⟨1, rfl, Or.inr rfl, rfl⟩
set_option maxRecDepth 100000 in
theorem lk57_5 : xAt kT57 5 (.invokestatic 53) 8 := ⟨3, rfl, Or.inr rfl, rfl⟩
set_option maxRecDepth 100000 in
theorem lk57_8 : xAt kT57 8 (.istore_n 2) 9 := ⟨1, rfl, Or.inr rfl, rfl⟩
set_option maxRecDepth 100000 in
theorem lk57_9 : xAt kT57 9 (.iload_n 1) 10 := ⟨1, rfl, Or.inr rfl, rfl⟩
set_option maxRecDepth 100000 in
theorem lk57_10 : xAt kT57 10 (.bipush 7) 12 := ⟨2, rfl, Or.inr rfl, rfl⟩
set_option maxRecDepth 100000 in
theorem lk57_12 : xAt kT57 12 (.ishr) 13 := ⟨1, rfl, Or.inr rfl, rfl⟩
set_option maxRecDepth 100000 in
theorem lk57_13 : xAt kT57 13 (.bipush 127) 15 := ⟨2, rfl, Or.inr rfl, rfl⟩
set_option maxRecDepth 100000 in
theorem lk57_15 : xAt kT57 15 (.iand) 16 := ⟨1, rfl, Or.inr rfl, rfl⟩
set_option maxRecDepth 100000 in
theorem lk57_16 : xAt kT57 16 (.istore_n 3) 17 := ⟨1, rfl, Or.inr rfl, rfl⟩
set_option maxRecDepth 100000 in
theorem lk57_17 : xAt kT57 17 (.iload_n 3) 18 := ⟨1, rfl, Or.inr rfl, rfl⟩
set_option maxRecDepth 100000 in
theorem lk57_18 : xAt kT57 18 (.ifCond .ne 7) 21 := ⟨3, rfl, Or.inr rfl, rfl⟩
set_option maxRecDepth 100000 in
theorem lk57_21 : xAt kT57 21 (.iload_n 2) 22 := ⟨1, rfl, Or.inr rfl, rfl⟩
set_option maxRecDepth 100000 in
theorem lk57_22 : xAt kT57 22 (.goto 12) 25 := ⟨3, rfl, Or.inr rfl, rfl⟩
set_option maxRecDepth 100000 in
theorem lk57_25 : xAt kT57 25 (.iload_n 2) 26 := ⟨1, rfl, Or.inr rfl, rfl⟩
set_option maxRecDepth 100000 in
theorem lk57_26 : xAt kT57 26 (.aload_n 0) 27 := ⟨1, rfl, Or.inr rfl, rfl⟩
set_option maxRecDepth 100000 in
theorem lk57_27 : xAt kT57 27 (.iload_n 3) 28 := ⟨1, rfl, Or.inr rfl, rfl⟩
set_option maxRecDepth 100000 in
theorem lk57_28 : xAt kT57 28 (.invokestatic 53) 31 := ⟨3, rfl, Or.inr rfl, rfl⟩
set_option maxRecDepth 100000 in
theorem lk57_31 : xAt kT57 31 (.invokestatic 57) 34 := ⟨3, rfl, Or.inr rfl, rfl⟩
set_option maxRecDepth 100000 in
theorem lk57_34 : xAt kT57 34 (.ireturn) 35 := ⟨1, rfl, Or.inr rfl, rfl⟩
set_option maxRecDepth 100000 in
theorem lk60_0 : xAt kT60 0 (.aload_n 0) 1 := ⟨1, rfl, Or.inr rfl, rfl⟩
set_option maxRecDepth 100000 in
theorem lk60_1 : xAt kT60 1 (.iconst 0) 2 := ⟨1, rfl, Or.inr rfl, rfl⟩
set_option maxRecDepth 100000 in
theorem lk60_2 : xAt kT60 2 (.iload_n 3) 3 := ⟨1, rfl, Or.inr rfl, rfl⟩
set_option maxRecDepth 100000 in
theorem lk60_3 : xAt kT60 3 (.aload_n 0) 4 := ⟨1, rfl, Or.inr rfl, rfl⟩
set_option maxRecDepth 100000 in
theorem lk60_4 : xAt kT60 4 (.getfield 15) 7 := ⟨3, rfl, Or.inr rfl, rfl⟩
set_option maxRecDepth 100000 in
theorem lk60_7 : xAt kT60 7 (.arraylength) 8 := ⟨1, rfl, Or.inr rfl, rfl⟩
set_option maxRecDepth 100000 in
theorem lk60_8 : xAt kT60 8 (.invokestatic 74) 11 := ⟨3, rfl, Or.inr rfl, rfl⟩
set_option maxRecDepth 100000 in
theorem lk60_11 : xAt kT60 11 (.aload_n 1) 12 := ⟨1, rfl, Or.inr rfl, rfl⟩
set_option maxRecDepth 100000 in
theorem lk60_12 : xAt kT60 12 (.arraylength) 13 := ⟨1, rfl, Or.inr rfl, rfl⟩
set_option maxRecDepth 100000 in
theorem lk60_13 : xAt kT60 13 (.iload_n 2) 14 := ⟨1, rfl, Or.inr rfl, rfl⟩
set_option maxRecDepth 100000 in
theorem lk60_14 : xAt kT60 14 (.isub) 15 := ⟨1, rfl, Or.inr rfl, rfl⟩
set_option maxRecDepth 100000 in
theorem lk60_15 : xAt kT60 15 (.invokestatic 74) 18 := ⟨3, rfl, Or.inr rfl, rfl⟩
set_option maxRecDepth 100000 in
theorem lk60_18 : xAt kT60 18 (.invokestatic 80) 21 := ⟨3, rfl, Or.inr rfl, rfl⟩
set_option maxRecDepth 100000 in
theorem lk60_21 : xAt kT60 21 (.putfield 65) 24 := ⟨3, rfl, Or.inr rfl, rfl⟩
set_option maxRecDepth 100000 in
theorem lk60_24 : xAt kT60 24 (.aload_n 0) 25 := ⟨1, rfl, Or.inr rfl, rfl⟩
set_option maxRecDepth 100000 in
theorem lk60_25 : xAt kT60 25 (.getfield 65) 28 := ⟨3, rfl, Or.inr rfl, rfl⟩
set_option maxRecDepth 100000 in
theorem lk60_28 : xAt kT60 28 (.ifCond .le 17) 31 := ⟨3, rfl, Or.inr rfl, rfl⟩
set_option maxRecDepth 100000 in
theorem lk60_31 : xAt kT60 31 (.aload_n 1) 32 := ⟨1, rfl, Or.inr rfl, rfl⟩
set_option maxRecDepth 100000 in
theorem lk60_32 : xAt kT60 32 (.iload_n 2) 33 := ⟨1, rfl, Or.inr rfl, rfl⟩
set_option maxRecDepth 100000 in
theorem lk60_33 : xAt kT60 33 (.aload_n 0) 34 := ⟨1, rfl, Or.inr rfl, rfl⟩
set_option maxRecDepth 100000 in
theorem lk60_34 : xAt kT60 34 (.getfield 15) 37 := ⟨3, rfl, Or.inr rfl, rfl⟩
set_option maxRecDepth 100000 in
theorem lk60_37 : xAt kT60 37 (.iconst 0) 38 := ⟨1, rfl, Or.inr rfl, rfl⟩
set_option maxRecDepth 100000 in
theorem lk60_38 : xAt kT60 38 (.aload_n 0) 39 := ⟨1, rfl, Or.inr rfl, rfl⟩
set_option maxRecDepth 100000 in
theorem lk60_39 : xAt kT60 39 (.getfield 65) 42 := ⟨3, rfl, Or.inr rfl, rfl⟩
set_option maxRecDepth 100000 in
theorem lk60_42 : xAt kT60 42 (.invokestatic 68) 45 := ⟨3, rfl, Or.inr rfl, rfl⟩
set_option maxRecDepth 100000 in
theorem lk60_45 : xAt kT60 45 (.return_) 46 := ⟨1, rfl, Or.inr rfl, rfl⟩
set_option maxRecDepth 100000 in
theorem lk188_0 : xAt kT188 0 (.aload_n 0) 1 := ⟨1, rfl, Or.inr rfl, rfl⟩
set_option maxRecDepth 100000 in
theorem lk188_1 : xAt kT188 1 (.getfield 24) 4 := ⟨3, rfl, Or.inr rfl, rfl⟩
set_option maxRecDepth 100000 in
theorem lk188_4 : xAt kT188 4 (.iload_n 1) 5 := ⟨1, rfl, Or.inr rfl, rfl⟩
set_option maxRecDepth 100000 in
theorem lk188_5 : xAt kT188 5 (.aload_n 0) 6 := ⟨1, rfl, Or.inr rfl, rfl⟩
set_option maxRecDepth 100000 in
theorem lk188_6 : xAt kT188 6 (.getfield 24) 9 := ⟨3, rfl, Or.inr rfl, rfl⟩
set_option maxRecDepth 100000 in
theorem lk188_9 : xAt kT188 9 (.iload_n 1) 10 := ⟨1, rfl, Or.inr rfl, rfl⟩
set_option maxRecDepth 100000 in
theorem lk188_10 : xAt kT188 10 (.laload) 11 := ⟨1, rfl, Or.inr rfl, rfl⟩
set_option maxRecDepth 100000 in
theorem lk188_11 : xAt kT188 11 (.ldc2_w 104) 14 := ⟨3, rfl, Or.inr rfl, rfl⟩
set_option maxRecDepth 100000 in
theorem lk188_14 : xAt kT188 14 (.lmul) 15 := ⟨1, rfl, Or.inr rfl, rfl⟩
set_option maxRecDepth 100000 in
theorem lk188_15 : xAt kT188 15 (.ldc2_w 106) 18 := ⟨3, rfl, Or.inr rfl, rfl⟩
set_option maxRecDepth 100000 in
theorem lk188_18 : xAt kT188 18 (.ladd) 19 := ⟨1, rfl, Or.inr rfl, rfl⟩
set_option maxRecDepth 100000 in
theorem lk188_19 : xAt kT188 19 (.lastore) 20 := ⟨1, rfl, Or.inr rfl, rfl⟩
set_option maxRecDepth 100000 in
theorem lk188_20 : xAt kT188 20 (.aload_n 0) 21 := ⟨1, rfl, Or.inr rfl, rfl⟩
set_option maxRecDepth 100000 in
theorem lk188_21 : xAt kT188 21 (.iload_n 1) 22 := ⟨1, rfl, Or.inr rfl, rfl⟩
set_option maxRecDepth 100000 in
theorem lk188_22 : xAt kT188 22 (.aload_n 0) 23 := ⟨1, rfl, Or.inr rfl, rfl⟩
set_option maxRecDepth 100000 in
theorem lk188_23 : xAt kT188 23 (.getfield 77) 26 := ⟨3, rfl, Or.inr rfl, rfl⟩
set_option maxRecDepth 100000 in
theorem lk188_26 : xAt kT188 26 (.bipush 50) 28 := ⟨2, rfl, Or.inr rfl, rfl⟩
set_option maxRecDepth 100000 in
theorem lk188_28 : xAt kT188 28 (.iadd) 29 := ⟨1, rfl, Or.inr rfl, rfl⟩
set_option maxRecDepth 100000 in
theorem lk188_29 : xAt kT188 29 (.aload_n 0) 30 := ⟨1, rfl, Or.inr rfl, rfl⟩
set_option maxRecDepth 100000 in
theorem lk188_30 : xAt kT188 30 (.getfield 24) 33 := ⟨3, rfl, Or.inr rfl, rfl⟩
set_option maxRecDepth 100000 in
theorem lk188_33 : xAt kT188 33 (.iload_n 1) 34 := ⟨1, rfl, Or.inr rfl, rfl⟩
set_option maxRecDepth 100000 in
theorem lk188_34 : xAt kT188 34 (.laload) 35 := ⟨1, rfl, Or.inr rfl, rfl⟩
set_option maxRecDepth 100000 in
theorem lk188_35 : xAt kT188 35 (.bipush 33) 37 := ⟨2, rfl, Or.inr rfl, rfl⟩
set_option maxRecDepth 100000 in
theorem lk188_37 : xAt kT188 37 (.lushr) 38 := ⟨1, rfl, Or.inr rfl, rfl⟩
set_option maxRecDepth 100000 in
theorem lk188_38 : xAt kT188 38 (.ldc2_w 148) 41 := ⟨3, rfl, Or.inr rfl, rfl⟩
set_option maxRecDepth 100000 in
theorem lk188_41 : xAt kT188 41 (.lrem) 42 := ⟨1, rfl, Or.inr rfl, rfl⟩
set_option maxRecDepth 100000 in
theorem lk188_42 : xAt kT188 42 (.l2i) 43 := ⟨1, rfl, Or.inr rfl, rfl⟩
set_option maxRecDepth 100000 in
theorem lk188_43 : xAt kT188 43 (.iadd) 44 := ⟨1, rfl, Or.inr rfl, rfl⟩
set_option maxRecDepth 100000 in
theorem lk188_44 : xAt kT188 44 (.invokevirtual 150) 47 := ⟨3, rfl, Or.inr rfl, rfl⟩
set_option maxRecDepth 100000 in
theorem lk188_47 : xAt kT188 47 (.return_) 48 := ⟨1, rfl, Or.inr rfl, rfl⟩
set_option maxRecDepth 100000 in
theorem lk62_0 : xAt kT62 0 (.aload_n 0) 1 := ⟨1, rfl, Or.inr rfl, rfl⟩
set_option maxRecDepth 100000 in
theorem lk62_1 : xAt kT62 1 (.invokevirtual 57) 4 := ⟨3, rfl, Or.inr rfl, rfl⟩
set_option maxRecDepth 100000 in
theorem lk62_4 : xAt kT62 4 (.sipush 300) 7 := ⟨3, rfl, Or.inr rfl, rfl⟩
set_option maxRecDepth 100000 in
theorem lk62_7 : xAt kT62 7 (.if_icmp .lt 4) 10 := ⟨3, rfl, Or.inr rfl, rfl⟩
set_option maxRecDepth 100000 in
theorem lk62_10 : xAt kT62 10 (.return_) 11 := ⟨1, rfl, Or.inr rfl, rfl⟩
set_option maxRecDepth 100000 in
theorem lk62_11 : xAt kT62 11 (.aload_n 1) 12 := ⟨1, rfl, Or.inr rfl, rfl⟩
set_option maxRecDepth 100000 in
theorem lk62_12 : xAt kT62 12 (.iload_n 2) 13 := ⟨1, rfl, Or.inr rfl, rfl⟩
set_option maxRecDepth 100000 in
theorem lk62_13 : xAt kT62 13 (.aload_n 0) 14 := ⟨1, rfl, Or.inr rfl, rfl⟩
set_option maxRecDepth 100000 in
theorem lk62_14 : xAt kT62 14 (.getfield 9) 17 := ⟨3, rfl, Or.inr rfl, rfl⟩
set_option maxRecDepth 100000 in
theorem lk62_17 : xAt kT62 17 (.aload_n 0) 18 := ⟨1, rfl, Or.inr rfl, rfl⟩
set_option maxRecDepth 100000 in
theorem lk62_18 : xAt kT62 18 (.invokevirtual 57) 21 := ⟨3, rfl, Or.inr rfl, rfl⟩
set_option maxRecDepth 100000 in
theorem lk62_21 : xAt kT62 21 (.bipush 6) 23 := ⟨2, rfl, Or.inr rfl, rfl⟩
set_option maxRecDepth 100000 in
theorem lk62_23 : xAt kT62 23 (.imul) 24 := ⟨1, rfl, Or.inr rfl, rfl⟩
set_option maxRecDepth 100000 in
theorem lk62_24 : xAt kT62 24 (.bipush 6) 26 := ⟨2, rfl, Or.inr rfl, rfl⟩
set_option maxRecDepth 100000 in
theorem lk62_26 : xAt kT62 26 (.invokestatic 61) 29 := ⟨3, rfl, Or.inr rfl, rfl⟩
set_option maxRecDepth 100000 in
theorem lk62_29 : xAt kT62 29 (.aload_n 0) 30 := ⟨1, rfl, Or.inr rfl, rfl⟩
set_option maxRecDepth 100000 in
theorem lk62_30 : xAt kT62 30 (.dup) 31 := ⟨1, rfl, Or.inr rfl, rfl⟩
set_option maxRecDepth 100000 in
theorem lk62_31 : xAt kT62 31 (.getfield 34) 34 := ⟨3, rfl, Or.inr rfl, rfl⟩
set_option maxRecDepth 100000 in
theorem lk62_34 : xAt kT62 34 (.iconst 1) 35 := ⟨1, rfl, Or.inr rfl, rfl⟩
set_option maxRecDepth 100000 in
theorem lk62_35 : xAt kT62 35 (.iadd) 36 := ⟨1, rfl, Or.inr rfl, rfl⟩
set_option maxRecDepth 100000 in
theorem lk62_36 : xAt kT62 36 (.putfield 34) 39 := ⟨3, rfl, Or.inr rfl, rfl⟩
set_option maxRecDepth 100000 in
theorem lk62_39 : xAt kT62 39 (.aload_n 1) 40 := ⟨1, rfl, Or.inr rfl, rfl⟩
set_option maxRecDepth 100000 in
theorem lk62_40 : xAt kT62 40 (.iload_n 2) 41 := ⟨1, rfl, Or.inr rfl, rfl⟩
set_option maxRecDepth 100000 in
theorem lk62_41 : xAt kT62 41 (.iconst 1) 42 := ⟨1, rfl, Or.inr rfl, rfl⟩
set_option maxRecDepth 100000 in
theorem lk62_42 : xAt kT62 42 (.iadd) 43 := ⟨1, rfl, Or.inr rfl, rfl⟩
set_option maxRecDepth 100000 in
theorem lk62_43 : xAt kT62 43 (.iaload) 44 := ⟨1, rfl, Or.inr rfl, rfl⟩
set_option maxRecDepth 100000 in
theorem lk62_44 : xAt kT62 44 (.iconst 1) 45 := ⟨1, rfl, Or.inr rfl, rfl⟩
set_option maxRecDepth 100000 in
theorem lk62_45 : xAt kT62 45 (.if_icmp .ne 20) 48 := ⟨3, rfl, Or.inr rfl, rfl⟩
set_option maxRecDepth 100000 in
theorem lk62_48 : xAt kT62 48 (.aload_n 0) 49 := ⟨1, rfl, Or.inr rfl, rfl⟩
set_option maxRecDepth 100000 in
theorem lk62_49 : xAt kT62 49 (.aload_n 1) 50 := ⟨1, rfl, Or.inr rfl, rfl⟩
set_option maxRecDepth 100000 in
theorem lk62_50 : xAt kT62 50 (.iload_n 2) 51 := ⟨1, rfl, Or.inr rfl, rfl⟩
set_option maxRecDepth 100000 in
theorem lk62_51 : xAt kT62 51 (.iconst 3) 52 := ⟨1, rfl, Or.inr rfl, rfl⟩
set_option maxRecDepth 100000 in
theorem lk62_52 : xAt kT62 52 (.iadd) 53 := ⟨1, rfl, Or.inr rfl, rfl⟩
set_option maxRecDepth 100000 in
theorem lk62_53 : xAt kT62 53 (.iaload) 54 := ⟨1, rfl, Or.inr rfl, rfl⟩
set_option maxRecDepth 100000 in
theorem lk62_54 : xAt kT62 54 (.putfield 25) 57 := ⟨3, rfl, Or.inr rfl, rfl⟩
set_option maxRecDepth 100000 in
theorem lk62_57 : xAt kT62 57 (.aload_n 0) 58 := ⟨1, rfl, Or.inr rfl, rfl⟩
set_option maxRecDepth 100000 in
theorem lk62_58 : xAt kT62 58 (.aload_n 0) 59 := ⟨1, rfl, Or.inr rfl, rfl⟩
set_option maxRecDepth 100000 in
theorem lk62_59 : xAt kT62 59 (.getfield 34) 62 := ⟨3, rfl, Or.inr rfl, rfl⟩
set_option maxRecDepth 100000 in
theorem lk62_62 : xAt kT62 62 (.putfield 67) 65 := ⟨3, rfl, Or.inr rfl, rfl⟩
set_option maxRecDepth 100000 in
theorem lk62_65 : xAt kT62 65 (.return_) 66 := ⟨1, rfl, Or.inr rfl, rfl⟩
set_option maxRecDepth 100000 in
theorem lk105_0 : xAt kT105 0 (.aload_n 0) 1 := ⟨1, rfl, Or.inr rfl, rfl⟩
set_option maxRecDepth 100000 in
theorem lk105_1 : xAt kT105 1 (.aload_n 0) 2 := ⟨1, rfl, Or.inr rfl, rfl⟩
set_option maxRecDepth 100000 in
theorem lk105_2 : xAt kT105 2 (.getfield 39) 5 := ⟨3, rfl, Or.inr rfl, rfl⟩
set_option maxRecDepth 100000 in
theorem lk105_5 : xAt kT105 5 (.iconst 1) 6 := ⟨1, rfl, Or.inr rfl, rfl⟩
set_option maxRecDepth 100000 in
theorem lk105_6 : xAt kT105 6 (.iadd) 7 := ⟨1, rfl, Or.inr rfl, rfl⟩
set_option maxRecDepth 100000 in
theorem lk105_7 : xAt kT105 7 (.invokevirtual 45) 10 := ⟨3, rfl, Or.inr rfl, rfl⟩
set_option maxRecDepth 100000 in
theorem lk105_10 : xAt kT105 10 (.aload_n 1) 11 := ⟨1, rfl, Or.inr rfl, rfl⟩
set_option maxRecDepth 100000 in
theorem lk105_11 : xAt kT105 11 (.iload_n 2) 12 := ⟨1, rfl, Or.inr rfl, rfl⟩
set_option maxRecDepth 100000 in
theorem lk105_12 : xAt kT105 12 (.aload_n 0) 13 := ⟨1, rfl, Or.inr rfl, rfl⟩
set_option maxRecDepth 100000 in
theorem lk105_13 : xAt kT105 13 (.getfield 9) 16 := ⟨3, rfl, Or.inr rfl, rfl⟩
set_option maxRecDepth 100000 in
theorem lk105_16 : xAt kT105 16 (.aload_n 0) 17 := ⟨1, rfl, Or.inr rfl, rfl⟩
set_option maxRecDepth 100000 in
theorem lk105_17 : xAt kT105 17 (.getfield 39) 20 := ⟨3, rfl, Or.inr rfl, rfl⟩
set_option maxRecDepth 100000 in
theorem lk105_20 : xAt kT105 20 (.bipush 6) 22 := ⟨2, rfl, Or.inr rfl, rfl⟩
set_option maxRecDepth 100000 in
theorem lk105_22 : xAt kT105 22 (.imul) 23 := ⟨1, rfl, Or.inr rfl, rfl⟩
set_option maxRecDepth 100000 in
theorem lk105_23 : xAt kT105 23 (.bipush 6) 25 := ⟨2, rfl, Or.inr rfl, rfl⟩
set_option maxRecDepth 100000 in
theorem lk105_25 : xAt kT105 25 (.invokestatic 49) 28 := ⟨3, rfl, Or.inr rfl, rfl⟩
set_option maxRecDepth 100000 in
theorem lk105_28 : xAt kT105 28 (.aload_n 0) 29 := ⟨1, rfl, Or.inr rfl, rfl⟩
set_option maxRecDepth 100000 in
theorem lk105_29 : xAt kT105 29 (.dup) 30 := ⟨1, rfl, Or.inr rfl, rfl⟩
set_option maxRecDepth 100000 in
theorem lk105_30 : xAt kT105 30 (.getfield 26) 33 := ⟨3, rfl, Or.inr rfl, rfl⟩
set_option maxRecDepth 100000 in
theorem lk105_33 : xAt kT105 33 (.bipush 25) 35 := ⟨2, rfl, Or.inr rfl, rfl⟩
set_option maxRecDepth 100000 in
theorem lk105_35 : xAt kT105 35 (.aload_n 1) 36 := ⟨1, rfl, Or.inr rfl, rfl⟩
set_option maxRecDepth 100000 in
theorem lk105_36 : xAt kT105 36 (.iload_n 2) 37 := ⟨1, rfl, Or.inr rfl, rfl⟩
set_option maxRecDepth 100000 in
theorem lk105_37 : xAt kT105 37 (.iconst 2) 38 := ⟨1, rfl, Or.inr rfl, rfl⟩
set_option maxRecDepth 100000 in
theorem lk105_38 : xAt kT105 38 (.iadd) 39 := ⟨1, rfl, Or.inr rfl, rfl⟩
set_option maxRecDepth 100000 in
theorem lk105_39 : xAt kT105 39 (.iaload) 40 := ⟨1, rfl, Or.inr rfl, rfl⟩
set_option maxRecDepth 100000 in
theorem lk105_40 : xAt kT105 40 (.iadd) 41 := ⟨1, rfl, Or.inr rfl, rfl⟩
set_option maxRecDepth 100000 in
theorem lk105_41 : xAt kT105 41 (.iadd) 42 := ⟨1, rfl, Or.inr rfl, rfl⟩
set_option maxRecDepth 100000 in
theorem lk105_42 : xAt kT105 42 (.putfield 26) 45 := ⟨3, rfl, Or.inr rfl, rfl⟩
set_option maxRecDepth 100000 in
theorem lk105_45 : xAt kT105 45 (.aload_n 0) 46 := ⟨1, rfl, Or.inr rfl, rfl⟩
set_option maxRecDepth 100000 in
theorem lk105_46 : xAt kT105 46 (.getfield 15) 49 := ⟨3, rfl, Or.inr rfl, rfl⟩
set_option maxRecDepth 100000 in
theorem lk105_49 : xAt kT105 49 (.aload_n 0) 50 := ⟨1, rfl, Or.inr rfl, rfl⟩
set_option maxRecDepth 100000 in
theorem lk105_50 : xAt kT105 50 (.getfield 39) 53 := ⟨3, rfl, Or.inr rfl, rfl⟩
set_option maxRecDepth 100000 in
theorem lk105_53 : xAt kT105 53 (.aload_n 0) 54 := ⟨1, rfl, Or.inr rfl, rfl⟩
set_option maxRecDepth 100000 in
theorem lk105_54 : xAt kT105 54 (.getfield 26) 57 := ⟨3, rfl, Or.inr rfl, rfl⟩
set_option maxRecDepth 100000 in
theorem lk105_57 : xAt kT105 57 (.iastore) 58 := ⟨1, rfl, Or.inr rfl, rfl⟩
set_option maxRecDepth 100000 in
theorem lk105_58 : xAt kT105 58 (.aload_n 0) 59 := ⟨1, rfl, Or.inr rfl, rfl⟩
set_option maxRecDepth 100000 in
theorem lk105_59 : xAt kT105 59 (.dup) 60 := ⟨1, rfl, Or.inr rfl, rfl⟩
set_option maxRecDepth 100000 in
theorem lk105_60 : xAt kT105 60 (.getfield 39) 63 := ⟨3, rfl, Or.inr rfl, rfl⟩
set_option maxRecDepth 100000 in
theorem lk105_63 : xAt kT105 63 (.iconst 1) 64 := ⟨1, rfl, Or.inr rfl, rfl⟩
set_option maxRecDepth 100000 in
theorem lk105_64 : xAt kT105 64 (.iadd) 65 := ⟨1, rfl, Or.inr rfl, rfl⟩
set_option maxRecDepth 100000 in
theorem lk105_65 : xAt kT105 65 (.putfield 39) 68 := ⟨3, rfl, Or.inr rfl, rfl⟩
set_option maxRecDepth 100000 in
theorem lk105_68 : xAt kT105 68 (.return_) 69 := ⟨1, rfl, Or.inr rfl, rfl⟩
set_option maxRecDepth 100000 in
theorem lk193_0 : xAt kT193 0 (.iload_n 1) 1 := ⟨1, rfl, Or.inr rfl, rfl⟩
set_option maxRecDepth 100000 in
theorem lk193_1 : xAt kT193 1 (.ifCond .lt 18) 4 := ⟨3, rfl, Or.inr rfl, rfl⟩
set_option maxRecDepth 100000 in
theorem lk193_4 : xAt kT193 4 (.iload_n 1) 5 := ⟨1, rfl, Or.inr rfl, rfl⟩
set_option maxRecDepth 100000 in
theorem lk193_5 : xAt kT193 5 (.aload_n 0) 6 := ⟨1, rfl, Or.inr rfl, rfl⟩
set_option maxRecDepth 100000 in
theorem lk193_6 : xAt kT193 6 (.getfield 31) 9 := ⟨3, rfl, Or.inr rfl, rfl⟩
set_option maxRecDepth 100000 in
theorem lk193_9 : xAt kT193 9 (.invokevirtual 55) 12 := ⟨3, rfl, Or.inr rfl, rfl⟩
set_option maxRecDepth 100000 in
theorem lk193_12 : xAt kT193 12 (.if_icmp .ge 7) 15 := ⟨3, rfl, Or.inr rfl, rfl⟩
set_option maxRecDepth 100000 in
theorem lk193_15 : xAt kT193 15 (.iconst 1) 16 := ⟨1, rfl, Or.inr rfl, rfl⟩
set_option maxRecDepth 100000 in
theorem lk193_16 : xAt kT193 16 (.goto 4) 19 := ⟨3, rfl, Or.inr rfl, rfl⟩
set_option maxRecDepth 100000 in
theorem lk193_19 : xAt kT193 19 (.iconst 0) 20 := ⟨1, rfl, Or.inr rfl, rfl⟩
set_option maxRecDepth 100000 in
theorem lk193_20 : xAt kT193 20 (.ireturn) 21 := ⟨1, rfl, Or.inr rfl, rfl⟩
set_option maxRecDepth 100000 in
theorem lk186_0 : xAt kT186 0 (.aload_n 0) 1 := ⟨1, rfl, Or.inr rfl, rfl⟩
set_option maxRecDepth 100000 in
theorem lk186_1 : xAt kT186 1 (.iload_n 1) 2 := ⟨1, rfl, Or.inr rfl, rfl⟩
set_option maxRecDepth 100000 in
theorem lk186_2 : xAt kT186 2 (.invokevirtual 133) 5 := ⟨3, rfl, Or.inr rfl, rfl⟩
set_option maxRecDepth 100000 in
theorem lk186_5 : xAt kT186 5 (.ifCond .eq 36) 8 := ⟨3, rfl, Or.inr rfl, rfl⟩
set_option maxRecDepth 100000 in
theorem lk186_8 : xAt kT186 8 (.aload_n 0) 9 := ⟨1, rfl, Or.inr rfl, rfl⟩
set_option maxRecDepth 100000 in
theorem lk186_9 : xAt kT186 9 (.getfield 31) 12 := ⟨3, rfl, Or.inr rfl, rfl⟩
set_option maxRecDepth 100000 in
theorem lk186_12 : xAt kT186 12 (.iload_n 1) 13 := ⟨1, rfl, Or.inr rfl, rfl⟩
set_option maxRecDepth 100000 in
theorem lk186_13 : xAt kT186 13 (.invokevirtual 59) 16 := ⟨3, rfl, Or.inr rfl, rfl⟩
set_option maxRecDepth 100000 in
theorem lk186_16 : xAt kT186 16 (.checkcast 52) 19 := ⟨3, rfl, Or.inr rfl, rfl⟩
set_option maxRecDepth 100000 in
theorem lk186_19 : xAt kT186 19 (.astore_n 3) 20 := ⟨1, rfl, Or.inr rfl, rfl⟩
set_option maxRecDepth 100000 in
theorem lk186_20 : xAt kT186 20 (.aload_n 0) 21 := ⟨1, rfl, Or.inr rfl, rfl⟩
set_option maxRecDepth 100000 in
theorem lk186_21 : xAt kT186 21 (.dup) 22 := ⟨1, rfl, Or.inr rfl, rfl⟩
set_option maxRecDepth 100000 in
theorem lk186_22 : xAt kT186 22 (.getfield 124) 25 := ⟨3, rfl, Or.inr rfl, rfl⟩
set_option maxRecDepth 100000 in
theorem lk186_25 : xAt kT186 25 (.iconst 1) 26 := ⟨1, rfl, Or.inr rfl, rfl⟩
set_option maxRecDepth 100000 in
theorem lk186_26 : xAt kT186 26 (.isub) 27 := ⟨1, rfl, Or.inr rfl, rfl⟩
set_option maxRecDepth 100000 in
theorem lk186_27 : xAt kT186 27 (.putfield 124) 30 := ⟨3, rfl, Or.inr rfl, rfl⟩
set_option maxRecDepth 100000 in
theorem lk186_30 : xAt kT186 30 (.aload_n 0) 31 := ⟨1, rfl, Or.inr rfl, rfl⟩
set_option maxRecDepth 100000 in
theorem lk186_31 : xAt kT186 31 (.aload_n 3) 32 := ⟨1, rfl, Or.inr rfl, rfl⟩
set_option maxRecDepth 100000 in
theorem lk186_32 : xAt kT186 32 (.aload_n 3) 33 := ⟨1, rfl, Or.inr rfl, rfl⟩
set_option maxRecDepth 100000 in
theorem lk186_33 : xAt kT186 33 (.getfield 115) 36 := ⟨3, rfl, Or.inr rfl, rfl⟩
set_option maxRecDepth 100000 in
theorem lk186_36 : xAt kT186 36 (.iload_n 2) 37 := ⟨1, rfl, Or.inr rfl, rfl⟩
set_option maxRecDepth 100000 in
theorem lk186_37 : xAt kT186 37 (.iadd) 38 := ⟨1, rfl, Or.inr rfl, rfl⟩
set_option maxRecDepth 100000 in
theorem lk186_38 : xAt kT186 38 (.invokevirtual 89) 41 := ⟨3, rfl, Or.inr rfl, rfl⟩
set_option maxRecDepth 100000 in
theorem lk186_41 : xAt kT186 41 (.return_) 42 := ⟨1, rfl, Or.inr rfl, rfl⟩
set_option maxRecDepth 100000 in
theorem lk187_0 : xAt kT187 0 (.aload_n 0) 1 := ⟨1, rfl, Or.inr rfl, rfl⟩
set_option maxRecDepth 100000 in
theorem lk187_1 : xAt kT187 1 (.iload_n 1) 2 := ⟨1, rfl, Or.inr rfl, rfl⟩
set_option maxRecDepth 100000 in
theorem lk187_2 : xAt kT187 2 (.invokevirtual 133) 5 := ⟨3, rfl, Or.inr rfl, rfl⟩
set_option maxRecDepth 100000 in
theorem lk187_5 : xAt kT187 5 (.ifCond .eq 52) 8 := ⟨3, rfl, Or.inr rfl, rfl⟩
set_option maxRecDepth 100000 in
theorem lk187_8 : xAt kT187 8 (.aload_n 0) 9 := ⟨1, rfl, Or.inr rfl, rfl⟩
set_option maxRecDepth 100000 in
theorem lk187_9 : xAt kT187 9 (.getfield 31) 12 := ⟨3, rfl, Or.inr rfl, rfl⟩
set_option maxRecDepth 100000 in
theorem lk187_12 : xAt kT187 12 (.iload_n 1) 13 := ⟨1, rfl, Or.inr rfl, rfl⟩
set_option maxRecDepth 100000 in
theorem lk187_13 : xAt kT187 13 (.invokevirtual 127) 16 := ⟨3, rfl, Or.inr rfl, rfl⟩
set_option maxRecDepth 100000 in
theorem lk187_16 : xAt kT187 16 (.checkcast 52) 19 := ⟨3, rfl, Or.inr rfl, rfl⟩
set_option maxRecDepth 100000 in
theorem lk187_19 : xAt kT187 19 (.astore_n 2) 20 := ⟨1, rfl, Or.inr rfl, rfl⟩
set_option maxRecDepth 100000 in
theorem lk187_20 : xAt kT187 20 (.aload_n 0) 21 := ⟨1, rfl, Or.inr rfl, rfl⟩
set_option maxRecDepth 100000 in
theorem lk187_21 : xAt kT187 21 (.invokevirtual 137) 24 := ⟨3, rfl, Or.inr rfl, rfl⟩
set_option maxRecDepth 100000 in
theorem lk187_24 : xAt kT187 24 (.astore_n 3) 25 := ⟨1, rfl, Or.inr rfl, rfl⟩
set_option maxRecDepth 100000 in
theorem lk187_25 : xAt kT187 25 (.aload_n 3) 26 := ⟨1, rfl, Or.inr rfl, rfl⟩
set_option maxRecDepth 100000 in
theorem lk187_26 : xAt kT187 26 (.aload_n 2) 27 := ⟨1, rfl, Or.inr rfl, rfl⟩
set_option maxRecDepth 100000 in
theorem lk187_27 : xAt kT187 27 (.invokevirtual 97) 30 := ⟨3, rfl, Or.inr rfl, rfl⟩
set_option maxRecDepth 100000 in
theorem lk187_30 : xAt kT187 30 (.aload_n 0) 31 := ⟨1, rfl, Or.inr rfl, rfl⟩
set_option maxRecDepth 100000 in
theorem lk187_31 : xAt kT187 31 (.aload_n 3) 32 := ⟨1, rfl, Or.inr rfl, rfl⟩
set_option maxRecDepth 100000 in
theorem lk187_32 : xAt kT187 32 (.aload_n 0) 33 := ⟨1, rfl, Or.inr rfl, rfl⟩
set_option maxRecDepth 100000 in
theorem lk187_33 : xAt kT187 33 (.getfield 77) 36 := ⟨3, rfl, Or.inr rfl, rfl⟩
set_option maxRecDepth 100000 in
theorem lk187_36 : xAt kT187 36 (.aload_n 0) 37 := ⟨1, rfl, Or.inr rfl, rfl⟩
set_option maxRecDepth 100000 in
theorem lk187_37 : xAt kT187 37 (.getfield 18) 40 := ⟨3, rfl, Or.inr rfl, rfl⟩
set_option maxRecDepth 100000 in
theorem lk187_40 : xAt kT187 40 (.aload_n 2) 41 := ⟨1, rfl, Or.inr rfl, rfl⟩
set_option maxRecDepth 100000 in
theorem lk187_41 : xAt kT187 41 (.getfield 63) 44 := ⟨3, rfl, Or.inr rfl, rfl⟩
set_option maxRecDepth 100000 in
theorem lk187_44 : xAt kT187 44 (.bipush 16) 46 := ⟨2, rfl, Or.inr rfl, rfl⟩
set_option maxRecDepth 100000 in
theorem lk187_46 : xAt kT187 46 (.imul) 47 := ⟨1, rfl, Or.inr rfl, rfl⟩
set_option maxRecDepth 100000 in
theorem lk187_47 : xAt kT187 47 (.aload_n 2) 48 := ⟨1, rfl, Or.inr rfl, rfl⟩
set_option maxRecDepth 100000 in
theorem lk187_48 : xAt kT187 48 (.getfield 66) 51 := ⟨3, rfl, Or.inr rfl, rfl⟩
set_option maxRecDepth 100000 in
theorem lk187_51 : xAt kT187 51 (.iadd) 52 := ⟨1, rfl, Or.inr rfl, rfl⟩
set_option maxRecDepth 100000 in
theorem lk187_52 : xAt kT187 52 (.iaload) 53 := ⟨1, rfl, Or.inr rfl, rfl⟩
set_option maxRecDepth 100000 in
theorem lk187_53 : xAt kT187 53 (.iadd) 54 := ⟨1, rfl, Or.inr rfl, rfl⟩
set_option maxRecDepth 100000 in
theorem lk187_54 : xAt kT187 54 (.invokevirtual 89) 57 := ⟨3, rfl, Or.inr rfl, rfl⟩
set_option maxRecDepth 100000 in
theorem lk187_57 : xAt kT187 57 (.return_) 58 := ⟨1, rfl, Or.inr rfl, rfl⟩
set_option maxRecDepth 100000 in
theorem lk190_0 : xAt kT190 0 (.aload_n 0) 1 := ⟨1, rfl, Or.inr rfl, rfl⟩
set_option maxRecDepth 100000 in
theorem lk190_1 : xAt kT190 1 (.iload_n 1) 2 := ⟨1, rfl, Or.inr rfl, rfl⟩
set_option maxRecDepth 100000 in
theorem lk190_2 : xAt kT190 2 (.invokevirtual 133) 5 := ⟨3, rfl, Or.inr rfl, rfl⟩
set_option maxRecDepth 100000 in
theorem lk190_5 : xAt kT190 5 (.ifCond .eq 18) 8 := ⟨3, rfl, Or.inr rfl, rfl⟩
set_option maxRecDepth 100000 in
theorem lk190_8 : xAt kT190 8 (.aload_n 0) 9 := ⟨1, rfl, Or.inr rfl, rfl⟩
set_option maxRecDepth 100000 in
theorem lk190_9 : xAt kT190 9 (.aload_n 0) 10 := ⟨1, rfl, Or.inr rfl, rfl⟩
set_option maxRecDepth 100000 in
theorem lk190_10 : xAt kT190 10 (.getfield 31) 13 := ⟨3, rfl, Or.inr rfl, rfl⟩
set_option maxRecDepth 100000 in
theorem lk190_13 : xAt kT190 13 (.iload_n 1) 14 := ⟨1, rfl, Or.inr rfl, rfl⟩
set_option maxRecDepth 100000 in
theorem lk190_14 : xAt kT190 14 (.invokevirtual 59) 17 := ⟨3, rfl, Or.inr rfl, rfl⟩
set_option maxRecDepth 100000 in
theorem lk190_17 : xAt kT190 17 (.checkcast 52) 20 := ⟨3, rfl, Or.inr rfl, rfl⟩
set_option maxRecDepth 100000 in
theorem lk190_20 : xAt kT190 20 (.invokevirtual 73) 23 := ⟨3, rfl, Or.inr rfl, rfl⟩
set_option maxRecDepth 100000 in
theorem lk190_23 : xAt kT190 23 (.return_) 24 := ⟨1, rfl, Or.inr rfl, rfl⟩
set_option maxRecDepth 100000 in
theorem lk191_0 : xAt kT191 0 (.iconst (-1)) 1 := ⟨1, rfl, Or.inr rfl, rfl⟩
set_option maxRecDepth 100000 in
theorem lk191_1 : xAt kT191 1 (.istore_n 1) 2 := ⟨1, rfl, Or.inr rfl, rfl⟩
set_option maxRecDepth 100000 in
theorem lk191_2 : xAt kT191 2 (.iconst 0) 3 := ⟨1, rfl, Or.inr rfl, rfl⟩
set_option maxRecDepth 100000 in
theorem lk191_3 : xAt kT191 3 (.istore_n 2) 4 := ⟨1, rfl, Or.inr rfl, rfl⟩
set_option maxRecDepth 100000 in
theorem lk191_4 : xAt kT191 4 (.iload_n 2) 5 := ⟨1, rfl, Or.inr rfl, rfl⟩
set_option maxRecDepth 100000 in
theorem lk191_5 : xAt kT191 5 (.bipush 23) 7 := ⟨2, rfl, Or.inr rfl, rfl⟩
set_option maxRecDepth 100000 in
theorem lk191_7 : xAt kT191 7 (.if_icmp .ge 71) 10 := ⟨3, rfl, Or.inr rfl, rfl⟩
set_option maxRecDepth 100000 in
theorem lk191_10 : xAt kT191 10 (.aload_n 0) 11 := ⟨1, rfl, Or.inr rfl, rfl⟩
set_option maxRecDepth 100000 in
theorem lk191_11 : xAt kT191 11 (.getfield 9) 14 := ⟨3, rfl, Or.inr rfl, rfl⟩
set_option maxRecDepth 100000 in
theorem lk191_14 : xAt kT191 14 (.iload_n 2) 15 := ⟨1, rfl, Or.inr rfl, rfl⟩
set_option maxRecDepth 100000 in
theorem lk191_15 : xAt kT191 15 (.iaload) 16 := ⟨1, rfl, Or.inr rfl, rfl⟩
set_option maxRecDepth 100000 in
theorem lk191_16 : xAt kT191 16 (.iconst (-1)) 17 := ⟨1, rfl, Or.inr rfl, rfl⟩
set_option maxRecDepth 100000 in
theorem lk191_17 : xAt kT191 17 (.if_icmp .eq 55) 20 := ⟨3, rfl, Or.inr rfl, rfl⟩
set_option maxRecDepth 100000 in
theorem lk191_20 : xAt kT191 20 (.iload_n 1) 21 := ⟨1, rfl, Or.inr rfl, rfl⟩
set_option maxRecDepth 100000 in
theorem lk191_21 : xAt kT191 21 (.iconst (-1)) 22 := ⟨1, rfl, Or.inr rfl, rfl⟩
set_option maxRecDepth 100000 in
theorem lk191_22 : xAt kT191 22 (.if_icmp .eq 48) 25 := ⟨3, rfl, Or.inr rfl, rfl⟩
set_option maxRecDepth 100000 in
theorem lk191_25 : xAt kT191 25 (.aload_n 0) 26 := ⟨1, rfl, Or.inr rfl, rfl⟩
set_option maxRecDepth 100000 in
theorem lk191_26 : xAt kT191 26 (.getfield 9) 29 := ⟨3, rfl, Or.inr rfl, rfl⟩
set_option maxRecDepth 100000 in
theorem lk191_29 : xAt kT191 29 (.iload_n 2) 30 := ⟨1, rfl, Or.inr rfl, rfl⟩
set_option maxRecDepth 100000 in
theorem lk191_30 : xAt kT191 30 (.iaload) 31 := ⟨1, rfl, Or.inr rfl, rfl⟩
set_option maxRecDepth 100000 in
theorem lk191_31 : xAt kT191 31 (.aload_n 0) 32 := ⟨1, rfl, Or.inr rfl, rfl⟩
set_option maxRecDepth 100000 in
theorem lk191_32 : xAt kT191 32 (.getfield 9) 35 := ⟨3, rfl, Or.inr rfl, rfl⟩
set_option maxRecDepth 100000 in
theorem lk191_35 : xAt kT191 35 (.iload_n 1) 36 := ⟨1, rfl, Or.inr rfl, rfl⟩
set_option maxRecDepth 100000 in
theorem lk191_36 : xAt kT191 36 (.iaload) 37 := ⟨1, rfl, Or.inr rfl, rfl⟩
set_option maxRecDepth 100000 in
theorem lk191_37 : xAt kT191 37 (.if_icmp .lt 33) 40 := ⟨3, rfl, Or.inr rfl, rfl⟩
set_option maxRecDepth 100000 in
theorem lk191_40 : xAt kT191 40 (.aload_n 0) 41 := ⟨1, rfl, Or.inr rfl, rfl⟩
set_option maxRecDepth 100000 in
theorem lk191_41 : xAt kT191 41 (.getfield 9) 44 := ⟨3, rfl, Or.inr rfl, rfl⟩
set_option maxRecDepth 100000 in
theorem lk191_44 : xAt kT191 44 (.iload_n 2) 45 := ⟨1, rfl, Or.inr rfl, rfl⟩
set_option maxRecDepth 100000 in
theorem lk191_45 : xAt kT191 45 (.iaload) 46 := ⟨1, rfl, Or.inr rfl, rfl⟩
set_option maxRecDepth 100000 in
theorem lk191_46 : xAt kT191 46 (.aload_n 0) 47 := ⟨1, rfl, Or.inr rfl, rfl⟩
set_option maxRecDepth 100000 in
theorem lk191_47 : xAt kT191 47 (.getfield 9) 50 := ⟨3, rfl, Or.inr rfl, rfl⟩
set_option maxRecDepth 100000 in
theorem lk191_50 : xAt kT191 50 (.iload_n 1) 51 := ⟨1, rfl, Or.inr rfl, rfl⟩
set_option maxRecDepth 100000 in
theorem lk191_51 : xAt kT191 51 (.iaload) 52 := ⟨1, rfl, Or.inr rfl, rfl⟩
set_option maxRecDepth 100000 in
theorem lk191_52 : xAt kT191 52 (.if_icmp .ne 20) 55 := ⟨3, rfl, Or.inr rfl, rfl⟩
set_option maxRecDepth 100000 in
theorem lk191_55 : xAt kT191 55 (.aload_n 0) 56 := ⟨1, rfl, Or.inr rfl, rfl⟩
set_option maxRecDepth 100000 in
theorem lk191_56 : xAt kT191 56 (.getfield 15) 59 := ⟨3, rfl, Or.inr rfl, rfl⟩
set_option maxRecDepth 100000 in
theorem lk191_59 : xAt kT191 59 (.iload_n 2) 60 := ⟨1, rfl, Or.inr rfl, rfl⟩
set_option maxRecDepth 100000 in
theorem lk191_60 : xAt kT191 60 (.iaload) 61 := ⟨1, rfl, Or.inr rfl, rfl⟩
set_option maxRecDepth 100000 in
theorem lk191_61 : xAt kT191 61 (.aload_n 0) 62 := ⟨1, rfl, Or.inr rfl, rfl⟩
set_option maxRecDepth 100000 in
theorem lk191_62 : xAt kT191 62 (.getfield 15) 65 := ⟨3, rfl, Or.inr rfl, rfl⟩
set_option maxRecDepth 100000 in
theorem lk191_65 : xAt kT191 65 (.iload_n 1) 66 := ⟨1, rfl, Or.inr rfl, rfl⟩
set_option maxRecDepth 100000 in
theorem lk191_66 : xAt kT191 66 (.iaload) 67 := ⟨1, rfl, Or.inr rfl, rfl⟩
set_option maxRecDepth 100000 in
theorem lk191_67 : xAt kT191 67 (.if_icmp .ge 5) 70 := ⟨3, rfl, Or.inr rfl, rfl⟩
set_option maxRecDepth 100000 in
theorem lk191_70 : xAt kT191 70 (.iload_n 2) 71 := ⟨1, rfl, Or.inr rfl, rfl⟩
set_option maxRecDepth 100000 in
theorem lk191_71 : xAt kT191 71 (.istore_n 1) 72 := ⟨1, rfl, Or.inr rfl, rfl⟩
set_option maxRecDepth 100000 in
theorem lk191_72 : xAt kT191 72 (.iinc 2 1) 75 := ⟨3, rfl, Or.inr rfl, rfl⟩
set_option maxRecDepth 100000 in
theorem lk191_75 : xAt kT191 75 (.goto (-71)) 78 := ⟨3, rfl, Or.inr rfl, rfl⟩
set_option maxRecDepth 100000 in
theorem lk191_78 : xAt kT191 78 (.iload_n 1) 79 := ⟨1, rfl, Or.inr rfl, rfl⟩
set_option maxRecDepth 100000 in
theorem lk191_79 : xAt kT191 79 (.ireturn) 80 := ⟨1, rfl, Or.inr rfl, rfl⟩
set_option maxRecDepth 100000 in
theorem lk192_0 : xAt kT192 0 (.aload_n 0) 1 := ⟨1, rfl, Or.inr rfl, rfl⟩
set_option maxRecDepth 100000 in
theorem lk192_1 : xAt kT192 1 (.getfield 31) 4 := ⟨3, rfl, Or.inr rfl, rfl⟩
set_option maxRecDepth 100000 in
theorem lk192_4 : xAt kT192 4 (.invokevirtual 48) 7 := ⟨3, rfl, Or.inr rfl, rfl⟩
set_option maxRecDepth 100000 in
theorem lk192_7 : xAt kT192 7 (.ifCond .eq 7) 10 := ⟨3, rfl, Or.inr rfl, rfl⟩
set_option maxRecDepth 100000 in
theorem lk192_10 : xAt kT192 10 (.aconst_null) 11 := ⟨1, rfl, Or.inr rfl, rfl⟩
set_option maxRecDepth 100000 in
theorem lk192_11 : xAt kT192 11 (.goto 14) 14 := ⟨3, rfl, Or.inr rfl, rfl⟩
set_option maxRecDepth 100000 in
theorem lk192_14 : xAt kT192 14 (.aload_n 0) 15 := ⟨1, rfl, Or.inr rfl, rfl⟩
set_option maxRecDepth 100000 in
theorem lk192_15 : xAt kT192 15 (.getfield 31) 18 := ⟨3, rfl, Or.inr rfl, rfl⟩
set_option maxRecDepth 100000 in
theorem lk192_18 : xAt kT192 18 (.iconst 0) 19 := ⟨1, rfl, Or.inr rfl, rfl⟩
set_option maxRecDepth 100000 in
theorem lk192_19 : xAt kT192 19 (.invokevirtual 127) 22 := ⟨3, rfl, Or.inr rfl, rfl⟩
set_option maxRecDepth 100000 in
theorem lk192_22 : xAt kT192 22 (.checkcast 52) 25 := ⟨3, rfl, Or.inr rfl, rfl⟩
set_option maxRecDepth 100000 in
theorem lk192_25 : xAt kT192 25 (.areturn) 26 := ⟨1, rfl, Or.inr rfl, rfl⟩
set_option maxRecDepth 100000 in
theorem lk196_0 : xAt kT196 0 (.aload_n 1) 1 := ⟨1, rfl, Or.inr rfl, rfl⟩
set_option maxRecDepth 100000 in
theorem lk196_1 : xAt kT196 1 (.getfield 115) 4 := ⟨3, rfl, Or.inr rfl, rfl⟩
set_option maxRecDepth 100000 in
theorem lk196_4 : xAt kT196 4 (.aload_n 0) 5 := ⟨1, rfl, Or.inr rfl, rfl⟩
set_option maxRecDepth 100000 in
theorem lk196_5 : xAt kT196 5 (.getfield 9) 8 := ⟨3, rfl, Or.inr rfl, rfl⟩
set_option maxRecDepth 100000 in
theorem lk196_8 : xAt kT196 8 (.iload_n 2) 9 := ⟨1, rfl, Or.inr rfl, rfl⟩
set_option maxRecDepth 100000 in
theorem lk196_9 : xAt kT196 9 (.iaload) 10 := ⟨1, rfl, Or.inr rfl, rfl⟩
set_option maxRecDepth 100000 in
theorem lk196_10 : xAt kT196 10 (.if_icmp .lt 29) 13 := ⟨3, rfl, Or.inr rfl, rfl⟩
set_option maxRecDepth 100000 in
theorem lk196_13 : xAt kT196 13 (.aload_n 1) 14 := ⟨1, rfl, Or.inr rfl, rfl⟩
set_option maxRecDepth 100000 in
theorem lk196_14 : xAt kT196 14 (.getfield 115) 17 := ⟨3, rfl, Or.inr rfl, rfl⟩
set_option maxRecDepth 100000 in
theorem lk196_17 : xAt kT196 17 (.aload_n 0) 18 := ⟨1, rfl, Or.inr rfl, rfl⟩
set_option maxRecDepth 100000 in
theorem lk196_18 : xAt kT196 18 (.getfield 9) 21 := ⟨3, rfl, Or.inr rfl, rfl⟩
set_option maxRecDepth 100000 in
theorem lk196_21 : xAt kT196 21 (.iload_n 2) 22 := ⟨1, rfl, Or.inr rfl, rfl⟩
set_option maxRecDepth 100000 in
theorem lk196_22 : xAt kT196 22 (.iaload) 23 := ⟨1, rfl, Or.inr rfl, rfl⟩
set_option maxRecDepth 100000 in
theorem lk196_23 : xAt kT196 23 (.if_icmp .ne 20) 26 := ⟨3, rfl, Or.inr rfl, rfl⟩
set_option maxRecDepth 100000 in
theorem lk196_26 : xAt kT196 26 (.aload_n 1) 27 := ⟨1, rfl, Or.inr rfl, rfl⟩
set_option maxRecDepth 100000 in
theorem lk196_27 : xAt kT196 27 (.getfield 121) 30 := ⟨3, rfl, Or.inr rfl, rfl⟩
set_option maxRecDepth 100000 in
theorem lk196_30 : xAt kT196 30 (.aload_n 0) 31 := ⟨1, rfl, Or.inr rfl, rfl⟩
set_option maxRecDepth 100000 in
theorem lk196_31 : xAt kT196 31 (.getfield 15) 34 := ⟨3, rfl, Or.inr rfl, rfl⟩
set_option maxRecDepth 100000 in
theorem lk196_34 : xAt kT196 34 (.iload_n 2) 35 := ⟨1, rfl, Or.inr rfl, rfl⟩
set_option maxRecDepth 100000 in
theorem lk196_35 : xAt kT196 35 (.iaload) 36 := ⟨1, rfl, Or.inr rfl, rfl⟩
set_option maxRecDepth 100000 in
theorem lk196_36 : xAt kT196 36 (.if_icmp .ge 7) 39 := ⟨3, rfl, Or.inr rfl, rfl⟩
set_option maxRecDepth 100000 in
theorem lk196_39 : xAt kT196 39 (.iconst 1) 40 := ⟨1, rfl, Or.inr rfl, rfl⟩
set_option maxRecDepth 100000 in
theorem lk196_40 : xAt kT196 40 (.goto 4) 43 := ⟨3, rfl, Or.inr rfl, rfl⟩
set_option maxRecDepth 100000 in
theorem lk196_43 : xAt kT196 43 (.iconst 0) 44 := ⟨1, rfl, Or.inr rfl, rfl⟩
set_option maxRecDepth 100000 in
theorem lk196_44 : xAt kT196 44 (.ireturn) 45 := ⟨1, rfl, Or.inr rfl, rfl⟩
set_option maxRecDepth 100000 in
theorem lk201_0 : xAt kT201 0 (.aload_n 0) 1 := ⟨1, rfl, Or.inr rfl, rfl⟩
set_option maxRecDepth 100000 in
theorem lk201_1 : xAt kT201 1 (.aload_n 0) 2 := ⟨1, rfl, Or.inr rfl, rfl⟩
set_option maxRecDepth 100000 in
theorem lk201_2 : xAt kT201 2 (.getfield 9) 5 := ⟨3, rfl, Or.inr rfl, rfl⟩
set_option maxRecDepth 100000 in
theorem lk201_5 : xAt kT201 5 (.iload_n 1) 6 := ⟨1, rfl, Or.inr rfl, rfl⟩
set_option maxRecDepth 100000 in
theorem lk201_6 : xAt kT201 6 (.iaload) 7 := ⟨1, rfl, Or.inr rfl, rfl⟩
set_option maxRecDepth 100000 in
theorem lk201_7 : xAt kT201 7 (.putfield 77) 10 := ⟨3, rfl, Or.inr rfl, rfl⟩
set_option maxRecDepth 100000 in
theorem lk201_10 : xAt kT201 10 (.aload_n 0) 11 := ⟨1, rfl, Or.inr rfl, rfl⟩
set_option maxRecDepth 100000 in
theorem lk201_11 : xAt kT201 11 (.dup) 12 := ⟨1, rfl, Or.inr rfl, rfl⟩
set_option maxRecDepth 100000 in
theorem lk201_12 : xAt kT201 12 (.getfield 141) 15 := ⟨3, rfl, Or.inr rfl, rfl⟩
set_option maxRecDepth 100000 in
theorem lk201_15 : xAt kT201 15 (.iconst 1) 16 := ⟨1, rfl, Or.inr rfl, rfl⟩
set_option maxRecDepth 100000 in
theorem lk201_16 : xAt kT201 16 (.iadd) 17 := ⟨1, rfl, Or.inr rfl, rfl⟩
set_option maxRecDepth 100000 in
theorem lk201_17 : xAt kT201 17 (.putfield 141) 20 := ⟨3, rfl, Or.inr rfl, rfl⟩
set_option maxRecDepth 100000 in
theorem lk201_20 : xAt kT201 20 (.aload_n 0) 21 := ⟨1, rfl, Or.inr rfl, rfl⟩
set_option maxRecDepth 100000 in
theorem lk201_21 : xAt kT201 21 (.iload_n 1) 22 := ⟨1, rfl, Or.inr rfl, rfl⟩
set_option maxRecDepth 100000 in
theorem lk201_22 : xAt kT201 22 (.invokevirtual 144) 25 := ⟨3, rfl, Or.inr rfl, rfl⟩
set_option maxRecDepth 100000 in
theorem lk201_25 : xAt kT201 25 (.return_) 26 := ⟨1, rfl, Or.inr rfl, rfl⟩
set_option maxRecDepth 100000 in
theorem lk202_0 : xAt kT202 0 (.aload_n 0) 1 := ⟨1, rfl, Or.inr rfl, rfl⟩
set_option maxRecDepth 100000 in
theorem lk202_1 : xAt kT202 1 (.getfield 31) 4 := ⟨3, rfl, Or.inr rfl, rfl⟩
set_option maxRecDepth 100000 in
theorem lk202_4 : xAt kT202 4 (.invokevirtual 48) 7 := ⟨3, rfl, Or.inr rfl, rfl⟩
set_option maxRecDepth 100000 in
theorem lk202_7 : xAt kT202 7 (.ifCond .ne 31) 10 := ⟨3, rfl, Or.inr rfl, rfl⟩
set_option maxRecDepth 100000 in
theorem lk202_10 : xAt kT202 10 (.aload_n 0) 11 := ⟨1, rfl, Or.inr rfl, rfl⟩
set_option maxRecDepth 100000 in
theorem lk202_11 : xAt kT202 11 (.aload_n 0) 12 := ⟨1, rfl, Or.inr rfl, rfl⟩
set_option maxRecDepth 100000 in
theorem lk202_12 : xAt kT202 12 (.getfield 31) 15 := ⟨3, rfl, Or.inr rfl, rfl⟩
set_option maxRecDepth 100000 in
theorem lk202_15 : xAt kT202 15 (.iconst 0) 16 := ⟨1, rfl, Or.inr rfl, rfl⟩
set_option maxRecDepth 100000 in
theorem lk202_16 : xAt kT202 16 (.invokevirtual 59) 19 := ⟨3, rfl, Or.inr rfl, rfl⟩
set_option maxRecDepth 100000 in
theorem lk202_19 : xAt kT202 19 (.checkcast 52) 22 := ⟨3, rfl, Or.inr rfl, rfl⟩
set_option maxRecDepth 100000 in
theorem lk202_22 : xAt kT202 22 (.getfield 115) 25 := ⟨3, rfl, Or.inr rfl, rfl⟩
set_option maxRecDepth 100000 in
theorem lk202_25 : xAt kT202 25 (.putfield 77) 28 := ⟨3, rfl, Or.inr rfl, rfl⟩
set_option maxRecDepth 100000 in
theorem lk202_28 : xAt kT202 28 (.aload_n 0) 29 := ⟨1, rfl, Or.inr rfl, rfl⟩
set_option maxRecDepth 100000 in
theorem lk202_29 : xAt kT202 29 (.dup) 30 := ⟨1, rfl, Or.inr rfl, rfl⟩
set_option maxRecDepth 100000 in
theorem lk202_30 : xAt kT202 30 (.getfield 141) 33 := ⟨3, rfl, Or.inr rfl, rfl⟩
set_option maxRecDepth 100000 in
theorem lk202_33 : xAt kT202 33 (.iconst 1) 34 := ⟨1, rfl, Or.inr rfl, rfl⟩
set_option maxRecDepth 100000 in
theorem lk202_34 : xAt kT202 34 (.iadd) 35 := ⟨1, rfl, Or.inr rfl, rfl⟩
set_option maxRecDepth 100000 in
theorem lk202_35 : xAt kT202 35 (.putfield 141) 38 := ⟨3, rfl, Or.inr rfl, rfl⟩
set_option maxRecDepth 100000 in
theorem lk202_38 : xAt kT202 38 (.return_) 39 := ⟨1, rfl, Or.inr rfl, rfl⟩
