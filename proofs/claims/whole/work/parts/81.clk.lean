/-! printed by wip/whole/gen_face.py: where an instruction stands -/
set_option maxRecDepth 100000 in
theorem lk205_0 : xAt kT205 0 (.iload_n 1) 1 := ⟨1, rfl, Or.inr rfl, rfl⟩
set_option maxRecDepth 100000 in
theorem lk205_1 : xAt kT205 1 (.ifCond .lt 9) 4 := ⟨3, rfl, Or.inr rfl, rfl⟩
set_option maxRecDepth 100000 in
theorem lk205_4 : xAt kT205 4 (.iload_n 1) 5 := ⟨1, rfl, Or.inr rfl, rfl⟩
set_option maxRecDepth 100000 in
theorem lk205_5 : xAt kT205 5 (.bipush 8) 7 := ⟨2, rfl, Or.inr rfl, rfl⟩
set_option maxRecDepth 100000 in
theorem lk205_7 : xAt kT205 7 (.if_icmp .lt 11) 10 := ⟨3, rfl, Or.inr rfl, rfl⟩
set_option maxRecDepth 100000 in
theorem lk205_18 : xAt kT205 18 (.aload_n 0) 19 := ⟨1, rfl, Or.inr rfl, rfl⟩
set_option maxRecDepth 100000 in
theorem lk205_19 : xAt kT205 19 (.getfield 17) 22 := ⟨3, rfl, Or.inr rfl, rfl⟩
set_option maxRecDepth 100000 in
theorem lk205_22 : xAt kT205 22 (.iload_n 1) 23 := ⟨1, rfl, Or.inr rfl, rfl⟩
set_option maxRecDepth 100000 in
theorem lk205_23 : xAt kT205 23 (.aaload) 24 := ⟨1, rfl, Or.inr rfl, rfl⟩
set_option maxRecDepth 100000 in
theorem lk205_24 : xAt kT205 24 (.areturn) 25 := ⟨1, rfl, Or.inr rfl, rfl⟩
set_option maxRecDepth 100000 in
theorem lk203_0 : xAt kT203 0 (.aload_n 0) 1 := ⟨1, rfl, Or.inr rfl, rfl⟩
set_option maxRecDepth 100000 in
theorem lk203_1 : xAt kT203 1 (.iload_n 1) 2 := ⟨1, rfl, Or.inr rfl, rfl⟩
set_option maxRecDepth 100000 in
theorem lk203_2 : xAt kT203 2 (.invokevirtual 76) 5 := ⟨3, rfl, Or.inr rfl, rfl⟩
set_option maxRecDepth 100000 in
theorem lk203_5 : xAt kT203 5 (.astore_n 2) 6 := ⟨1, rfl, Or.inr rfl, rfl⟩
set_option maxRecDepth 100000 in
theorem lk203_6 : xAt kT203 6 (.aload_n 2) 7 := ⟨1, rfl, Or.inr rfl, rfl⟩
set_option maxRecDepth 100000 in
theorem lk203_7 : xAt kT203 7 (.getfield 290) 10 := ⟨3, rfl, Or.inr rfl, rfl⟩
set_option maxRecDepth 100000 in
theorem lk203_10 : xAt kT203 10 (.iconst 0) 11 := ⟨1, rfl, Or.inr rfl, rfl⟩
set_option maxRecDepth 100000 in
theorem lk203_11 : xAt kT203 11 (.aload_n 0) 12 := ⟨1, rfl, Or.inr rfl, rfl⟩
set_option maxRecDepth 100000 in
theorem lk203_12 : xAt kT203 12 (.getfield 25) 15 := ⟨3, rfl, Or.inr rfl, rfl⟩
set_option maxRecDepth 100000 in
theorem lk203_15 : xAt kT203 15 (.iconst 0) 16 := ⟨1, rfl, Or.inr rfl, rfl⟩
set_option maxRecDepth 100000 in
theorem lk203_16 : xAt kT203 16 (.aload_n 2) 17 := ⟨1, rfl, Or.inr rfl, rfl⟩
set_option maxRecDepth 100000 in
theorem lk203_17 : xAt kT203 17 (.getfield 293) 20 := ⟨3, rfl, Or.inr rfl, rfl⟩
set_option maxRecDepth 100000 in
theorem lk203_20 : xAt kT203 20 (.invokestatic 296) 23 := ⟨3, rfl, Or.inr rfl, rfl⟩
set_option maxRecDepth 100000 in
theorem lk203_23 : xAt kT203 23 (.aload_n 0) 24 := ⟨1, rfl, Or.inr rfl, rfl⟩
set_option maxRecDepth 100000 in
theorem lk203_24 : xAt kT203 24 (.aload_n 2) 25 := ⟨1, rfl, Or.inr rfl, rfl⟩
set_option maxRecDepth 100000 in
theorem lk203_25 : xAt kT203 25 (.getfield 293) 28 := ⟨3, rfl, Or.inr rfl, rfl⟩
set_option maxRecDepth 100000 in
theorem lk203_28 : xAt kT203 28 (.putfield 242) 31 := ⟨3, rfl, Or.inr rfl, rfl⟩
set_option maxRecDepth 100000 in
theorem lk203_31 : xAt kT203 31 (.aload_n 0) 32 := ⟨1, rfl, Or.inr rfl, rfl⟩
set_option maxRecDepth 100000 in
theorem lk203_32 : xAt kT203 32 (.getfield 242) 35 := ⟨3, rfl, Or.inr rfl, rfl⟩
set_option maxRecDepth 100000 in
theorem lk203_35 : xAt kT203 35 (.ireturn) 36 := ⟨1, rfl, Or.inr rfl, rfl⟩
set_option maxRecDepth 100000 in
theorem lk221_0 : xAt kT221 0 (.iload_n 0) 1 := ⟨1, rfl, Or.inr rfl, rfl⟩
set_option maxRecDepth 100000 in
theorem lk221_1 : xAt kT221 1 (.ifCond .lt 33) 4 := ⟨3, rfl, Or.inr rfl, rfl⟩
set_option maxRecDepth 100000 in
theorem lk221_4 : xAt kT221 4 (.iload_n 0) 5 := ⟨1, rfl, Or.inr rfl, rfl⟩
set_option maxRecDepth 100000 in
theorem lk221_5 : xAt kT221 5 (.iconst 5) 6 := ⟨1, rfl, Or.inr rfl, rfl⟩
set_option maxRecDepth 100000 in
theorem lk221_6 : xAt kT221 6 (.if_icmp .gt 28) 9 := ⟨3, rfl, Or.inr rfl, rfl⟩
set_option maxRecDepth 100000 in
theorem lk221_9 : xAt kT221 9 (.iload_n 1) 10 := ⟨1, rfl, Or.inr rfl, rfl⟩
set_option maxRecDepth 100000 in
theorem lk221_10 : xAt kT221 10 (.iconst 1) 11 := ⟨1, rfl, Or.inr rfl, rfl⟩
set_option maxRecDepth 100000 in
theorem lk221_11 : xAt kT221 11 (.if_icmp .lt 23) 14 := ⟨3, rfl, Or.inr rfl, rfl⟩
set_option maxRecDepth 100000 in
theorem lk221_14 : xAt kT221 14 (.iload_n 1) 15 := ⟨1, rfl, Or.inr rfl, rfl⟩
set_option maxRecDepth 100000 in
theorem lk221_15 : xAt kT221 15 (.bipush 32) 17 := ⟨2, rfl, Or.inr rfl, rfl⟩
set_option maxRecDepth 100000 in
theorem lk221_17 : xAt kT221 17 (.if_icmp .gt 17) 20 := ⟨3, rfl, Or.inr rfl, rfl⟩
set_option maxRecDepth 100000 in
theorem lk221_20 : xAt kT221 20 (.iload_n 1) 21 := ⟨1, rfl, Or.inr rfl, rfl⟩
set_option maxRecDepth 100000 in
theorem lk221_21 : xAt kT221 21 (.iload_n 3) 22 := ⟨1, rfl, Or.inr rfl, rfl⟩
set_option maxRecDepth 100000 in
theorem lk221_22 : xAt kT221 22 (.if_icmp .gt 12) 25 := ⟨3, rfl, Or.inr rfl, rfl⟩
set_option maxRecDepth 100000 in
theorem lk221_25 : xAt kT221 25 (.iload_n 2) 26 := ⟨1, rfl, Or.inr rfl, rfl⟩
set_option maxRecDepth 100000 in
theorem lk221_26 : xAt kT221 26 (.ifCond .eq 10) 29 := ⟨3, rfl, Or.inr rfl, rfl⟩
set_option maxRecDepth 100000 in
theorem lk221_29 : xAt kT221 29 (.iload_n 0) 30 := ⟨1, rfl, Or.inr rfl, rfl⟩
set_option maxRecDepth 100000 in
theorem lk221_30 : xAt kT221 30 (.iconst 1) 31 := ⟨1, rfl, Or.inr rfl, rfl⟩
set_option maxRecDepth 100000 in
theorem lk221_31 : xAt kT221 31 (.if_icmp .eq 5) 34 := ⟨3, rfl, Or.inr rfl, rfl⟩
set_option maxRecDepth 100000 in
theorem lk221_34 : xAt kT221 34 (.iconst 0) 35 := ⟨1, rfl, Or.inr rfl, rfl⟩
set_option maxRecDepth 100000 in
theorem lk221_35 : xAt kT221 35 (.ireturn) 36 := ⟨1, rfl, Or.inr rfl, rfl⟩
set_option maxRecDepth 100000 in
theorem lk221_36 : xAt kT221 36 (.iload_n 3) 37 := ⟨1, rfl, Or.inr rfl, rfl⟩
set_option maxRecDepth 100000 in
theorem lk221_37 : xAt kT221 37 (.iload_n 1) 38 := ⟨1, rfl, Or.inr rfl, rfl⟩
set_option maxRecDepth 100000 in
theorem lk221_38 : xAt kT221 38 (.isub) 39 := ⟨1, rfl, Or.inr rfl, rfl⟩
set_option maxRecDepth 100000 in
theorem lk221_39 : xAt kT221 39 (.istore 4) 41 := ⟨2, rfl, Or.inr rfl, rfl⟩
set_option maxRecDepth 100000 in
theorem lk221_41 : xAt kT221 41 (.iload_n 0) 42 := ⟨1, rfl, Or.inr rfl, rfl⟩
set_option maxRecDepth 100000 in
theorem lk221_42 : xAt kT221 42 (.tableswitch 97 0 4 #[34, 47, 97, 97, 78]) 76 := ⟨34, rfl, Or.inl rfl, rfl⟩
set_option maxRecDepth 100000 in
theorem lk221_76 : xAt kT221 76 (.iload 4) 78 := ⟨2, rfl, Or.inr rfl, rfl⟩
set_option maxRecDepth 100000 in
theorem lk221_78 : xAt kT221 78 (.bipush 100) 80 := ⟨2, rfl, Or.inr rfl, rfl⟩
set_option maxRecDepth 100000 in
theorem lk221_80 : xAt kT221 80 (.if_icmp .gt 7) 83 := ⟨3, rfl, Or.inr rfl, rfl⟩
set_option maxRecDepth 100000 in
theorem lk221_83 : xAt kT221 83 (.iconst 1) 84 := ⟨1, rfl, Or.inr rfl, rfl⟩
set_option maxRecDepth 100000 in
theorem lk221_84 : xAt kT221 84 (.goto 4) 87 := ⟨3, rfl, Or.inr rfl, rfl⟩
set_option maxRecDepth 100000 in
theorem lk221_87 : xAt kT221 87 (.iconst 0) 88 := ⟨1, rfl, Or.inr rfl, rfl⟩
set_option maxRecDepth 100000 in
theorem lk221_88 : xAt kT221 88 (.ireturn) 89 := ⟨1, rfl, Or.inr rfl, rfl⟩
set_option maxRecDepth 100000 in
theorem lk221_89 : xAt kT221 89 (.iload_n 2) 90 := ⟨1, rfl, Or.inr rfl, rfl⟩
set_option maxRecDepth 100000 in
theorem lk221_90 : xAt kT221 90 (.ifCond .lt 28) 93 := ⟨3, rfl, Or.inr rfl, rfl⟩
set_option maxRecDepth 100000 in
theorem lk221_93 : xAt kT221 93 (.iload_n 2) 94 := ⟨1, rfl, Or.inr rfl, rfl⟩
set_option maxRecDepth 100000 in
theorem lk221_94 : xAt kT221 94 (.bipush 100) 96 := ⟨2, rfl, Or.inr rfl, rfl⟩
set_option maxRecDepth 100000 in
theorem lk221_96 : xAt kT221 96 (.if_icmp .gt 22) 99 := ⟨3, rfl, Or.inr rfl, rfl⟩
set_option maxRecDepth 100000 in
theorem lk221_99 : xAt kT221 99 (.iload_n 2) 100 := ⟨1, rfl, Or.inr rfl, rfl⟩
set_option maxRecDepth 100000 in
theorem lk221_100 : xAt kT221 100 (.iload 4) 102 := ⟨2, rfl, Or.inr rfl, rfl⟩
set_option maxRecDepth 100000 in
theorem lk221_102 : xAt kT221 102 (.if_icmp .gt 16) 105 := ⟨3, rfl, Or.inr rfl, rfl⟩
set_option maxRecDepth 100000 in
theorem lk221_105 : xAt kT221 105 (.iload 4) 107 := ⟨2, rfl, Or.inr rfl, rfl⟩
set_option maxRecDepth 100000 in
theorem lk221_107 : xAt kT221 107 (.iload_n 2) 108 := ⟨1, rfl, Or.inr rfl, rfl⟩
set_option maxRecDepth 100000 in
theorem lk221_108 : xAt kT221 108 (.isub) 109 := ⟨1, rfl, Or.inr rfl, rfl⟩
set_option maxRecDepth 100000 in
theorem lk221_109 : xAt kT221 109 (.bipush 100) 111 := ⟨2, rfl, Or.inr rfl, rfl⟩
set_option maxRecDepth 100000 in
theorem lk221_111 : xAt kT221 111 (.if_icmp .gt 7) 114 := ⟨3, rfl, Or.inr rfl, rfl⟩
set_option maxRecDepth 100000 in
theorem lk221_114 : xAt kT221 114 (.iconst 1) 115 := ⟨1, rfl, Or.inr rfl, rfl⟩
set_option maxRecDepth 100000 in
theorem lk221_115 : xAt kT221 115 (.goto 4) 118 := ⟨3, rfl, Or.inr rfl, rfl⟩
set_option maxRecDepth 100000 in
theorem lk221_118 : xAt kT221 118 (.iconst 0) 119 := ⟨1, rfl, Or.inr rfl, rfl⟩
set_option maxRecDepth 100000 in
theorem lk221_119 : xAt kT221 119 (.ireturn) 120 := ⟨1, rfl, Or.inr rfl, rfl⟩
set_option maxRecDepth 100000 in
theorem lk221_120 : xAt kT221 120 (.iload 4) 122 := ⟨2, rfl, Or.inr rfl, rfl⟩
set_option maxRecDepth 100000 in
theorem lk221_122 : xAt kT221 122 (.iconst 1) 123 := ⟨1, rfl, Or.inr rfl, rfl⟩
set_option maxRecDepth 100000 in
theorem lk221_123 : xAt kT221 123 (.if_icmp .lt 14) 126 := ⟨3, rfl, Or.inr rfl, rfl⟩
set_option maxRecDepth 100000 in
theorem lk221_126 : xAt kT221 126 (.iload 4) 128 := ⟨2, rfl, Or.inr rfl, rfl⟩
set_option maxRecDepth 100000 in
theorem lk221_128 : xAt kT221 128 (.bipush 32) 130 := ⟨2, rfl, Or.inr rfl, rfl⟩
set_option maxRecDepth 100000 in
theorem lk221_130 : xAt kT221 130 (.if_icmp .gt 7) 133 := ⟨3, rfl, Or.inr rfl, rfl⟩
set_option maxRecDepth 100000 in
theorem lk221_133 : xAt kT221 133 (.iconst 1) 134 := ⟨1, rfl, Or.inr rfl, rfl⟩
set_option maxRecDepth 100000 in
theorem lk221_134 : xAt kT221 134 (.goto 4) 137 := ⟨3, rfl, Or.inr rfl, rfl⟩
set_option maxRecDepth 100000 in
theorem lk221_137 : xAt kT221 137 (.iconst 0) 138 := ⟨1, rfl, Or.inr rfl, rfl⟩
set_option maxRecDepth 100000 in
theorem lk221_138 : xAt kT221 138 (.ireturn) 139 := ⟨1, rfl, Or.inr rfl, rfl⟩
set_option maxRecDepth 100000 in
theorem lk221_139 : xAt kT221 139 (.iload 4) 141 := ⟨2, rfl, Or.inr rfl, rfl⟩
set_option maxRecDepth 100000 in
theorem lk221_141 : xAt kT221 141 (.ifCond .ne 7) 144 := ⟨3, rfl, Or.inr rfl, rfl⟩
set_option maxRecDepth 100000 in
theorem lk221_144 : xAt kT221 144 (.iconst 1) 145 := ⟨1, rfl, Or.inr rfl, rfl⟩
set_option maxRecDepth 100000 in
theorem lk221_145 : xAt kT221 145 (.goto 4) 148 := ⟨3, rfl, Or.inr rfl, rfl⟩
set_option maxRecDepth 100000 in
theorem lk221_148 : xAt kT221 148 (.iconst 0) 149 := ⟨1, rfl, Or.inr rfl, rfl⟩
set_option maxRecDepth 100000 in
theorem lk221_149 : xAt kT221 149 (.ireturn) 150 := ⟨1, rfl, Or.inr rfl, rfl⟩
set_option maxRecDepth 100000 in
theorem lk16_0 : xAt kT16 0 (.aload_n 0) 1 := ⟨1, rfl, Or.inr rfl, rfl⟩
set_option maxRecDepth 100000 in
theorem lk16_1 : xAt kT16 1 (.getfield 15) 4 := ⟨3, rfl, Or.inr rfl, rfl⟩
set_option maxRecDepth 100000 in
theorem lk16_4 : xAt kT16 4 (.arraylength) 5 := ⟨1, rfl, Or.inr rfl, rfl⟩
set_option maxRecDepth 100000 in
theorem lk16_5 : xAt kT16 5 (.aload_n 0) 6 := ⟨1, rfl, Or.inr rfl, rfl⟩
set_option maxRecDepth 100000 in
theorem lk16_6 : xAt kT16 6 (.getfield 32) 9 := ⟨3, rfl, Or.inr rfl, rfl⟩
set_option maxRecDepth 100000 in
theorem lk16_9 : xAt kT16 9 (.iload_n 3) 10 := ⟨1, rfl, Or.inr rfl, rfl⟩
set_option maxRecDepth 100000 in
theorem lk16_10 : xAt kT16 10 (.iadd) 11 := ⟨1, rfl, Or.inr rfl, rfl⟩
set_option maxRecDepth 100000 in
theorem lk16_11 : xAt kT16 11 (.if_icmp .ge 22) 14 := ⟨3, rfl, Or.inr rfl, rfl⟩
set_option maxRecDepth 100000 in
theorem lk16_14 : xAt kT16 14 (.aload_n 0) 15 := ⟨1, rfl, Or.inr rfl, rfl⟩
set_option maxRecDepth 100000 in
theorem lk16_15 : xAt kT16 15 (.aload_n 0) 16 := ⟨1, rfl, Or.inr rfl, rfl⟩
set_option maxRecDepth 100000 in
theorem lk16_16 : xAt kT16 16 (.getfield 15) 19 := ⟨3, rfl, Or.inr rfl, rfl⟩
set_option maxRecDepth 100000 in
theorem lk16_19 : xAt kT16 19 (.iconst 2) 20 := ⟨1, rfl, Or.inr rfl, rfl⟩
set_option maxRecDepth 100000 in
theorem lk16_20 : xAt kT16 20 (.aload_n 0) 21 := ⟨1, rfl, Or.inr rfl, rfl⟩
set_option maxRecDepth 100000 in
theorem lk16_21 : xAt kT16 21 (.getfield 32) 24 := ⟨3, rfl, Or.inr rfl, rfl⟩
set_option maxRecDepth 100000 in
theorem lk16_24 : xAt kT16 24 (.iload_n 3) 25 := ⟨1, rfl, Or.inr rfl, rfl⟩
set_option maxRecDepth 100000 in
theorem lk16_25 : xAt kT16 25 (.iadd) 26 := ⟨1, rfl, Or.inr rfl, rfl⟩
set_option maxRecDepth 100000 in
theorem lk16_26 : xAt kT16 26 (.imul) 27 := ⟨1, rfl, Or.inr rfl, rfl⟩
set_option maxRecDepth 100000 in
theorem lk16_27 : xAt kT16 27 (.invokestatic 35) 30 := ⟨3, rfl, Or.inr rfl, rfl⟩
set_option maxRecDepth 100000 in
theorem lk16_30 : xAt kT16 30 (.putfield 15) 33 := ⟨3, rfl, Or.inr rfl, rfl⟩
set_option maxRecDepth 100000 in
theorem lk16_33 : xAt kT16 33 (.aload_n 2) 34 := ⟨1, rfl, Or.inr rfl, rfl⟩
set_option maxRecDepth 100000 in
theorem lk16_34 : xAt kT16 34 (.iconst 0) 35 := ⟨1, rfl, Or.inr rfl, rfl⟩
set_option maxRecDepth 100000 in
theorem lk16_35 : xAt kT16 35 (.aload_n 0) 36 := ⟨1, rfl, Or.inr rfl, rfl⟩
set_option maxRecDepth 100000 in
theorem lk16_36 : xAt kT16 36 (.getfield 15) 39 := ⟨3, rfl, Or.inr rfl, rfl⟩
set_option maxRecDepth 100000 in
theorem lk16_39 : xAt kT16 39 (.aload_n 0) 40 := ⟨1, rfl, Or.inr rfl, rfl⟩
set_option maxRecDepth 100000 in
theorem lk16_40 : xAt kT16 40 (.getfield 32) 43 := ⟨3, rfl, Or.inr rfl, rfl⟩
set_option maxRecDepth 100000 in
theorem lk16_43 : xAt kT16 43 (.iload_n 3) 44 := ⟨1, rfl, Or.inr rfl, rfl⟩
set_option maxRecDepth 100000 in
theorem lk16_44 : xAt kT16 44 (.invokestatic 38) 47 := ⟨3, rfl, Or.inr rfl, rfl⟩
set_option maxRecDepth 100000 in
theorem lk16_47 : xAt kT16 47 (.aload_n 0) 48 := ⟨1, rfl, Or.inr rfl, rfl⟩
set_option maxRecDepth 100000 in
theorem lk16_48 : xAt kT16 48 (.dup) 49 := ⟨1, rfl, Or.inr rfl, rfl⟩
set_option maxRecDepth 100000 in
theorem lk16_49 : xAt kT16 49 (.getfield 32) 52 := ⟨3, rfl, Or.inr rfl, rfl⟩
set_option maxRecDepth 100000 in
theorem lk16_52 : xAt kT16 52 (.iload_n 3) 53 := ⟨1, rfl, Or.inr rfl, rfl⟩
set_option maxRecDepth 100000 in
theorem lk16_53 : xAt kT16 53 (.iadd) 54 := ⟨1, rfl, Or.inr rfl, rfl⟩
set_option maxRecDepth 100000 in
theorem lk16_54 : xAt kT16 54 (.putfield 32) 57 := ⟨3, rfl, Or.inr rfl, rfl⟩
set_option maxRecDepth 100000 in
theorem lk16_57 : xAt kT16 57 (.aload_n 0) 58 := ⟨1, rfl, Or.inr rfl, rfl⟩
set_option maxRecDepth 100000 in
theorem lk16_58 : xAt kT16 58 (.getfield 11) 61 := ⟨3, rfl, Or.inr rfl, rfl⟩
set_option maxRecDepth 100000 in
theorem lk16_61 : xAt kT16 61 (.iload_n 1) 62 := ⟨1, rfl, Or.inr rfl, rfl⟩
set_option maxRecDepth 100000 in
theorem lk16_62 : xAt kT16 62 (.bipush 10) 64 := ⟨2, rfl, Or.inr rfl, rfl⟩
set_option maxRecDepth 100000 in
theorem lk16_64 : xAt kT16 64 (.imul) 65 := ⟨1, rfl, Or.inr rfl, rfl⟩
set_option maxRecDepth 100000 in
theorem lk16_65 : xAt kT16 65 (.bipush 9) 67 := ⟨2, rfl, Or.inr rfl, rfl⟩
set_option maxRecDepth 100000 in
theorem lk16_67 : xAt kT16 67 (.iadd) 68 := ⟨1, rfl, Or.inr rfl, rfl⟩
set_option maxRecDepth 100000 in
theorem lk16_68 : xAt kT16 68 (.iload_n 3) 69 := ⟨1, rfl, Or.inr rfl, rfl⟩
set_option maxRecDepth 100000 in
theorem lk16_69 : xAt kT16 69 (.iastore) 70 := ⟨1, rfl, Or.inr rfl, rfl⟩
set_option maxRecDepth 100000 in
theorem lk16_70 : xAt kT16 70 (.return_) 71 := ⟨1, rfl, Or.inr rfl, rfl⟩
set_option maxRecDepth 100000 in
theorem lk204_0 : xAt kT204 0 (.aload_n 0) 1 := ⟨1, rfl, Or.inr rfl, rfl⟩
set_option maxRecDepth 100000 in
theorem lk204_1 : xAt kT204 1 (.getfield 63) 4 := ⟨3, rfl, Or.inr rfl, rfl⟩
set_option maxRecDepth 100000 in
theorem lk204_4 : xAt kT204 4 (.istore 5) 6 := ⟨2, rfl, Or.inr rfl, rfl⟩
set_option maxRecDepth 100000 in
theorem lk204_6 : xAt kT204 6 (.aload_n 0) 7 := ⟨1, rfl, Or.inr rfl, rfl⟩
set_option maxRecDepth 100000 in
theorem lk204_7 : xAt kT204 7 (.iconst 0) 8 := ⟨1, rfl, Or.inr rfl, rfl⟩
set_option maxRecDepth 100000 in
theorem lk204_8 : xAt kT204 8 (.putfield 63) 11 := ⟨3, rfl, Or.inr rfl, rfl⟩
set_option maxRecDepth 100000 in
theorem lk204_11 : xAt kT204 11 (.aload_n 0) 12 := ⟨1, rfl, Or.inr rfl, rfl⟩
set_option maxRecDepth 100000 in
theorem lk204_12 : xAt kT204 12 (.iload_n 1) 13 := ⟨1, rfl, Or.inr rfl, rfl⟩
set_option maxRecDepth 100000 in
theorem lk204_13 : xAt kT204 13 (.invokevirtual 76) 16 := ⟨3, rfl, Or.inr rfl, rfl⟩
set_option maxRecDepth 100000 in
theorem lk204_16 : xAt kT204 16 (.astore 6) 18 := ⟨2, rfl, Or.inr rfl, rfl⟩
set_option maxRecDepth 100000 in
theorem lk204_18 : xAt kT204 18 (.iload_n 2) 19 := ⟨1, rfl, Or.inr rfl, rfl⟩
set_option maxRecDepth 100000 in
theorem lk204_19 : xAt kT204 19 (.iload_n 3) 20 := ⟨1, rfl, Or.inr rfl, rfl⟩
set_option maxRecDepth 100000 in
theorem lk204_20 : xAt kT204 20 (.iload 4) 22 := ⟨2, rfl, Or.inr rfl, rfl⟩
set_option maxRecDepth 100000 in
theorem lk204_22 : xAt kT204 22 (.iload 5) 24 := ⟨2, rfl, Or.inr rfl, rfl⟩
set_option maxRecDepth 100000 in
theorem lk204_24 : xAt kT204 24 (.invokestatic 80) 27 := ⟨3, rfl, Or.inr rfl, rfl⟩
set_option maxRecDepth 100000 in
theorem lk204_27 : xAt kT204 27 (.ifCond .ne 11) 30 := ⟨3, rfl, Or.inr rfl, rfl⟩
set_option maxRecDepth 100000 in
theorem lk204_38 : xAt kT204 38 (.aload 6) 40 := ⟨2, rfl, Or.inr rfl, rfl⟩
set_option maxRecDepth 100000 in
theorem lk204_40 : xAt kT204 40 (.getfield 84) 43 := ⟨3, rfl, Or.inr rfl, rfl⟩
set_option maxRecDepth 100000 in
theorem lk204_43 : xAt kT204 43 (.ifCond .ne 16) 46 := ⟨3, rfl, Or.inr rfl, rfl⟩
set_option maxRecDepth 100000 in
theorem lk204_46 : xAt kT204 46 (.aload_n 0) 47 := ⟨1, rfl, Or.inr rfl, rfl⟩
set_option maxRecDepth 100000 in
theorem lk204_47 : xAt kT204 47 (.getfield 49) 50 := ⟨3, rfl, Or.inr rfl, rfl⟩
set_option maxRecDepth 100000 in
theorem lk204_50 : xAt kT204 50 (.getfield 88) 53 := ⟨3, rfl, Or.inr rfl, rfl⟩
set_option maxRecDepth 100000 in
theorem lk204_53 : xAt kT204 53 (.sipush 1024) 56 := ⟨3, rfl, Or.inr rfl, rfl⟩
set_option maxRecDepth 100000 in
theorem lk204_56 : xAt kT204 56 (.if_icmp .lt 11) 59 := ⟨3, rfl, Or.inr rfl, rfl⟩
set_option maxRecDepth 100000 in
theorem lk204_67 : xAt kT204 67 (.aload_n 0) 68 := ⟨1, rfl, Or.inr rfl, rfl⟩
set_option maxRecDepth 100000 in
theorem lk204_68 : xAt kT204 68 (.getfield 49) 71 := ⟨3, rfl, Or.inr rfl, rfl⟩
set_option maxRecDepth 100000 in
theorem lk204_71 : xAt kT204 71 (.iload_n 1) 72 := ⟨1, rfl, Or.inr rfl, rfl⟩
set_option maxRecDepth 100000 in
theorem lk204_72 : xAt kT204 72 (.iload_n 2) 73 := ⟨1, rfl, Or.inr rfl, rfl⟩
set_option maxRecDepth 100000 in
theorem lk204_73 : xAt kT204 73 (.iload_n 3) 74 := ⟨1, rfl, Or.inr rfl, rfl⟩
set_option maxRecDepth 100000 in
theorem lk204_74 : xAt kT204 74 (.iload 4) 76 := ⟨2, rfl, Or.inr rfl, rfl⟩
set_option maxRecDepth 100000 in
theorem lk204_76 : xAt kT204 76 (.invokevirtual 91) 79 := ⟨3, rfl, Or.inr rfl, rfl⟩
set_option maxRecDepth 100000 in
theorem lk204_79 : xAt kT204 79 (.istore 7) 81 := ⟨2, rfl, Or.inr rfl, rfl⟩
set_option maxRecDepth 100000 in
theorem lk204_81 : xAt kT204 81 (.aload_n 0) 82 := ⟨1, rfl, Or.inr rfl, rfl⟩
set_option maxRecDepth 100000 in
theorem lk204_82 : xAt kT204 82 (.getfield 49) 85 := ⟨3, rfl, Or.inr rfl, rfl⟩
set_option maxRecDepth 100000 in
theorem lk204_85 : xAt kT204 85 (.iload 7) 87 := ⟨2, rfl, Or.inr rfl, rfl⟩
set_option maxRecDepth 100000 in
theorem lk204_87 : xAt kT204 87 (.aload_n 0) 88 := ⟨1, rfl, Or.inr rfl, rfl⟩
set_option maxRecDepth 100000 in
theorem lk204_88 : xAt kT204 88 (.getfield 21) 91 := ⟨3, rfl, Or.inr rfl, rfl⟩
set_option maxRecDepth 100000 in
theorem lk204_91 : xAt kT204 91 (.iload 5) 93 := ⟨2, rfl, Or.inr rfl, rfl⟩
set_option maxRecDepth 100000 in
theorem lk204_93 : xAt kT204 93 (.invokevirtual 95) 96 := ⟨3, rfl, Or.inr rfl, rfl⟩
set_option maxRecDepth 100000 in
theorem lk204_96 : xAt kT204 96 (.aload 6) 98 := ⟨2, rfl, Or.inr rfl, rfl⟩
set_option maxRecDepth 100000 in
theorem lk204_98 : xAt kT204 98 (.iload 7) 100 := ⟨2, rfl, Or.inr rfl, rfl⟩
set_option maxRecDepth 100000 in
theorem lk204_100 : xAt kT204 100 (.invokevirtual 99) 103 := ⟨3, rfl, Or.inr rfl, rfl⟩
set_option maxRecDepth 100000 in
theorem lk204_103 : xAt kT204 103 (.iload 7) 105 := ⟨2, rfl, Or.inr rfl, rfl⟩
set_option maxRecDepth 100000 in
theorem lk204_105 : xAt kT204 105 (.ireturn) 106 := ⟨1, rfl, Or.inr rfl, rfl⟩
set_option maxRecDepth 100000 in
theorem lk206_0 : xAt kT206 0 (.iload_n 1) 1 := ⟨1, rfl, Or.inr rfl, rfl⟩
set_option maxRecDepth 100000 in
theorem lk206_1 : xAt kT206 1 (.ifCond .lt 11) 4 := ⟨3, rfl, Or.inr rfl, rfl⟩
set_option maxRecDepth 100000 in
theorem lk206_4 : xAt kT206 4 (.iload_n 1) 5 := ⟨1, rfl, Or.inr rfl, rfl⟩
set_option maxRecDepth 100000 in
theorem lk206_5 : xAt kT206 5 (.aload_n 0) 6 := ⟨1, rfl, Or.inr rfl, rfl⟩
set_option maxRecDepth 100000 in
theorem lk206_6 : xAt kT206 6 (.getfield 242) 9 := ⟨3, rfl, Or.inr rfl, rfl⟩
set_option maxRecDepth 100000 in
theorem lk206_9 : xAt kT206 9 (.if_icmp .lt 11) 12 := ⟨3, rfl, Or.inr rfl, rfl⟩
set_option maxRecDepth 100000 in
theorem lk206_20 : xAt kT206 20 (.aload_n 0) 21 := ⟨1, rfl, Or.inr rfl, rfl⟩
set_option maxRecDepth 100000 in
theorem lk206_21 : xAt kT206 21 (.getfield 25) 24 := ⟨3, rfl, Or.inr rfl, rfl⟩
set_option maxRecDepth 100000 in
theorem lk206_24 : xAt kT206 24 (.iload_n 1) 25 := ⟨1, rfl, Or.inr rfl, rfl⟩
set_option maxRecDepth 100000 in
theorem lk206_25 : xAt kT206 25 (.baload) 26 := ⟨1, rfl, Or.inr rfl, rfl⟩
set_option maxRecDepth 100000 in
theorem lk206_26 : xAt kT206 26 (.sipush 255) 29 := ⟨3, rfl, Or.inr rfl, rfl⟩
set_option maxRecDepth 100000 in
theorem lk206_29 : xAt kT206 29 (.iand) 30 := ⟨1, rfl, Or.inr rfl, rfl⟩
set_option maxRecDepth 100000 in
theorem lk206_30 : xAt kT206 30 (.ireturn) 31 := ⟨1, rfl, Or.inr rfl, rfl⟩
set_option maxRecDepth 100000 in
theorem lk207_0 : xAt kT207 0 (.aload_n 0) 1 := ⟨1, rfl, Or.inr rfl, rfl⟩
set_option maxRecDepth 100000 in
theorem lk207_1 : xAt kT207 1 (.iload_n 1) 2 := ⟨1, rfl, Or.inr rfl, rfl⟩
set_option maxRecDepth 100000 in
theorem lk207_2 : xAt kT207 2 (.invokevirtual 76) 5 := ⟨3, rfl, Or.inr rfl, rfl⟩
set_option maxRecDepth 100000 in
theorem lk207_5 : xAt kT207 5 (.astore_n 3) 6 := ⟨1, rfl, Or.inr rfl, rfl⟩
set_option maxRecDepth 100000 in
theorem lk207_6 : xAt kT207 6 (.iload_n 2) 7 := ⟨1, rfl, Or.inr rfl, rfl⟩
set_option maxRecDepth 100000 in
theorem lk207_7 : xAt kT207 7 (.tableswitch 75 0 5 #[37, 50, 55, 60, 65, 70]) 44 := ⟨37, rfl, Or.inl rfl, rfl⟩
set_option maxRecDepth 100000 in
theorem lk207_44 : xAt kT207 44 (.aload_n 3) 45 := ⟨1, rfl, Or.inr rfl, rfl⟩
set_option maxRecDepth 100000 in
theorem lk207_45 : xAt kT207 45 (.getfield 84) 48 := ⟨3, rfl, Or.inr rfl, rfl⟩
set_option maxRecDepth 100000 in
theorem lk207_48 : xAt kT207 48 (.ifCond .eq 7) 51 := ⟨3, rfl, Or.inr rfl, rfl⟩
set_option maxRecDepth 100000 in
theorem lk207_51 : xAt kT207 51 (.iconst 1) 52 := ⟨1, rfl, Or.inr rfl, rfl⟩
set_option maxRecDepth 100000 in
theorem lk207_52 : xAt kT207 52 (.goto 4) 55 := ⟨3, rfl, Or.inr rfl, rfl⟩
set_option maxRecDepth 100000 in
theorem lk207_55 : xAt kT207 55 (.iconst 0) 56 := ⟨1, rfl, Or.inr rfl, rfl⟩
set_option maxRecDepth 100000 in
theorem lk207_56 : xAt kT207 56 (.ireturn) 57 := ⟨1, rfl, Or.inr rfl, rfl⟩
set_option maxRecDepth 100000 in
theorem lk207_57 : xAt kT207 57 (.aload_n 3) 58 := ⟨1, rfl, Or.inr rfl, rfl⟩
set_option maxRecDepth 100000 in
theorem lk207_58 : xAt kT207 58 (.getfield 275) 61 := ⟨3, rfl, Or.inr rfl, rfl⟩
set_option maxRecDepth 100000 in
theorem lk207_61 : xAt kT207 61 (.ireturn) 62 := ⟨1, rfl, Or.inr rfl, rfl⟩
set_option maxRecDepth 100000 in
theorem lk207_62 : xAt kT207 62 (.aload_n 3) 63 := ⟨1, rfl, Or.inr rfl, rfl⟩
set_option maxRecDepth 100000 in
theorem lk207_63 : xAt kT207 63 (.getfield 278) 66 := ⟨3, rfl, Or.inr rfl, rfl⟩
set_option maxRecDepth 100000 in
theorem lk207_66 : xAt kT207 66 (.ireturn) 67 := ⟨1, rfl, Or.inr rfl, rfl⟩
set_option maxRecDepth 100000 in
theorem lk207_67 : xAt kT207 67 (.aload_n 3) 68 := ⟨1, rfl, Or.inr rfl, rfl⟩
set_option maxRecDepth 100000 in
theorem lk207_68 : xAt kT207 68 (.getfield 281) 71 := ⟨3, rfl, Or.inr rfl, rfl⟩
set_option maxRecDepth 100000 in
theorem lk207_71 : xAt kT207 71 (.ireturn) 72 := ⟨1, rfl, Or.inr rfl, rfl⟩
set_option maxRecDepth 100000 in
theorem lk207_72 : xAt kT207 72 (.aload_n 3) 73 := ⟨1, rfl, Or.inr rfl, rfl⟩
set_option maxRecDepth 100000 in
theorem lk207_73 : xAt kT207 73 (.getfield 284) 76 := ⟨3, rfl, Or.inr rfl, rfl⟩
set_option maxRecDepth 100000 in
theorem lk207_76 : xAt kT207 76 (.ireturn) 77 := ⟨1, rfl, Or.inr rfl, rfl⟩
set_option maxRecDepth 100000 in
theorem lk207_77 : xAt kT207 77 (.aload_n 3) 78 := ⟨1, rfl, Or.inr rfl, rfl⟩
set_option maxRecDepth 100000 in
theorem lk207_78 : xAt kT207 78 (.getfield 287) 81 := ⟨3, rfl, Or.inr rfl, rfl⟩
set_option maxRecDepth 100000 in
theorem lk207_81 : xAt kT207 81 (.ireturn) 82 := ⟨1, rfl, Or.inr rfl, rfl⟩
set_option maxRecDepth 100000 in
theorem lk208_0 : xAt kT208 0 (.iload_n 1) 1 := ⟨1, rfl, Or.inr rfl, rfl⟩
set_option maxRecDepth 100000 in
theorem lk208_1 : xAt kT208 1 (.tableswitch 99 0 6 #[43, 54, 62, 70, 78, 86, 94]) 44 := ⟨43, rfl, Or.inl rfl, rfl⟩
set_option maxRecDepth 100000 in
theorem lk208_44 : xAt kT208 44 (.aload_n 0) 45 := ⟨1, rfl, Or.inr rfl, rfl⟩
set_option maxRecDepth 100000 in
theorem lk208_45 : xAt kT208 45 (.getfield 42) 48 := ⟨3, rfl, Or.inr rfl, rfl⟩
set_option maxRecDepth 100000 in
theorem lk208_48 : xAt kT208 48 (.getfield 248) 51 := ⟨3, rfl, Or.inr rfl, rfl⟩
set_option maxRecDepth 100000 in
theorem lk208_51 : xAt kT208 51 (.invokevirtual 303) 54 := ⟨3, rfl, Or.inr rfl, rfl⟩
set_option maxRecDepth 100000 in
theorem lk208_54 : xAt kT208 54 (.ireturn) 55 := ⟨1, rfl, Or.inr rfl, rfl⟩
set_option maxRecDepth 100000 in
theorem lk208_55 : xAt kT208 55 (.aload_n 0) 56 := ⟨1, rfl, Or.inr rfl, rfl⟩
set_option maxRecDepth 100000 in
theorem lk208_56 : xAt kT208 56 (.getfield 42) 59 := ⟨3, rfl, Or.inr rfl, rfl⟩
set_option maxRecDepth 100000 in
theorem lk208_59 : xAt kT208 59 (.getfield 305) 62 := ⟨3, rfl, Or.inr rfl, rfl⟩
set_option maxRecDepth 100000 in
theorem lk208_62 : xAt kT208 62 (.ireturn) 63 := ⟨1, rfl, Or.inr rfl, rfl⟩
set_option maxRecDepth 100000 in
theorem lk208_63 : xAt kT208 63 (.aload_n 0) 64 := ⟨1, rfl, Or.inr rfl, rfl⟩
set_option maxRecDepth 100000 in
theorem lk208_64 : xAt kT208 64 (.getfield 42) 67 := ⟨3, rfl, Or.inr rfl, rfl⟩
set_option maxRecDepth 100000 in
theorem lk208_67 : xAt kT208 67 (.getfield 308) 70 := ⟨3, rfl, Or.inr rfl, rfl⟩
set_option maxRecDepth 100000 in
theorem lk208_70 : xAt kT208 70 (.ireturn) 71 := ⟨1, rfl, Or.inr rfl, rfl⟩
set_option maxRecDepth 100000 in
theorem lk208_71 : xAt kT208 71 (.aload_n 0) 72 := ⟨1, rfl, Or.inr rfl, rfl⟩
set_option maxRecDepth 100000 in
theorem lk208_72 : xAt kT208 72 (.getfield 42) 75 := ⟨3, rfl, Or.inr rfl, rfl⟩
set_option maxRecDepth 100000 in
theorem lk208_75 : xAt kT208 75 (.getfield 311) 78 := ⟨3, rfl, Or.inr rfl, rfl⟩
set_option maxRecDepth 100000 in
theorem lk208_78 : xAt kT208 78 (.ireturn) 79 := ⟨1, rfl, Or.inr rfl, rfl⟩
set_option maxRecDepth 100000 in
theorem lk208_79 : xAt kT208 79 (.aload_n 0) 80 := ⟨1, rfl, Or.inr rfl, rfl⟩
set_option maxRecDepth 100000 in
theorem lk208_80 : xAt kT208 80 (.getfield 49) 83 := ⟨3, rfl, Or.inr rfl, rfl⟩
set_option maxRecDepth 100000 in
theorem lk208_83 : xAt kT208 83 (.getfield 88) 86 := ⟨3, rfl, Or.inr rfl, rfl⟩
set_option maxRecDepth 100000 in
theorem lk208_86 : xAt kT208 86 (.ireturn) 87 := ⟨1, rfl, Or.inr rfl, rfl⟩
set_option maxRecDepth 100000 in
theorem lk208_87 : xAt kT208 87 (.aload_n 0) 88 := ⟨1, rfl, Or.inr rfl, rfl⟩
set_option maxRecDepth 100000 in
theorem lk208_88 : xAt kT208 88 (.getfield 49) 91 := ⟨3, rfl, Or.inr rfl, rfl⟩
set_option maxRecDepth 100000 in
theorem lk208_91 : xAt kT208 91 (.getfield 314) 94 := ⟨3, rfl, Or.inr rfl, rfl⟩
set_option maxRecDepth 100000 in
theorem lk208_94 : xAt kT208 94 (.ireturn) 95 := ⟨1, rfl, Or.inr rfl, rfl⟩
set_option maxRecDepth 100000 in
theorem lk208_95 : xAt kT208 95 (.aload_n 0) 96 := ⟨1, rfl, Or.inr rfl, rfl⟩
set_option maxRecDepth 100000 in
theorem lk208_96 : xAt kT208 96 (.getfield 63) 99 := ⟨3, rfl, Or.inr rfl, rfl⟩
set_option maxRecDepth 100000 in
theorem lk208_99 : xAt kT208 99 (.ireturn) 100 := ⟨1, rfl, Or.inr rfl, rfl⟩
set_option maxRecDepth 100000 in
theorem lk208_100 : xAt kT208 100 (.iconst (-1)) 101 := ⟨1, rfl, Or.inr rfl, rfl⟩
set_option maxRecDepth 100000 in
theorem lk208_101 : xAt kT208 101 (.ireturn) 102 := ⟨1, rfl, Or.inr rfl, rfl⟩
set_option maxRecDepth 100000 in
theorem lk219_0 : xAt kT219 0 (.iload_n 1) 1 := ⟨1, rfl, Or.inr rfl, rfl⟩
set_option maxRecDepth 100000 in
theorem lk219_1 : xAt kT219 1 (.ifCond .lt 9) 4 := ⟨3, rfl, Or.inr rfl, rfl⟩
set_option maxRecDepth 100000 in
theorem lk219_4 : xAt kT219 4 (.iload_n 1) 5 := ⟨1, rfl, Or.inr rfl, rfl⟩
set_option maxRecDepth 100000 in
theorem lk219_5 : xAt kT219 5 (.bipush 7) 7 := ⟨2, rfl, Or.inr rfl, rfl⟩
set_option maxRecDepth 100000 in
theorem lk219_7 : xAt kT219 7 (.if_icmp .lt 11) 10 := ⟨3, rfl, Or.inr rfl, rfl⟩
set_option maxRecDepth 100000 in
theorem lk219_18 : xAt kT219 18 (.aload_n 0) 19 := ⟨1, rfl, Or.inr rfl, rfl⟩
set_option maxRecDepth 100000 in
theorem lk219_19 : xAt kT219 19 (.getfield 11) 22 := ⟨3, rfl, Or.inr rfl, rfl⟩
set_option maxRecDepth 100000 in
theorem lk219_22 : xAt kT219 22 (.iload_n 1) 23 := ⟨1, rfl, Or.inr rfl, rfl⟩
set_option maxRecDepth 100000 in
theorem lk219_23 : xAt kT219 23 (.aaload) 24 := ⟨1, rfl, Or.inr rfl, rfl⟩
set_option maxRecDepth 100000 in
theorem lk219_24 : xAt kT219 24 (.areturn) 25 := ⟨1, rfl, Or.inr rfl, rfl⟩
set_option maxRecDepth 100000 in
theorem lk209_0 : xAt kT209 0 (.aload_n 0) 1 := ⟨1, rfl, Or.inr rfl, rfl⟩
set_option maxRecDepth 100000 in
theorem lk209_1 : xAt kT209 1 (.iload_n 1) 2 := ⟨1, rfl, Or.inr rfl, rfl⟩
set_option maxRecDepth 100000 in
theorem lk209_2 : xAt kT209 2 (.invokevirtual 155) 5 := ⟨3, rfl, Or.inr rfl, rfl⟩
set_option maxRecDepth 100000 in
theorem lk209_5 : xAt kT209 5 (.astore 4) 7 := ⟨2, rfl, Or.inr rfl, rfl⟩
set_option maxRecDepth 100000 in
theorem lk209_7 : xAt kT209 7 (.aload 4) 9 := ⟨2, rfl, Or.inr rfl, rfl⟩
set_option maxRecDepth 100000 in
theorem lk209_9 : xAt kT209 9 (.getfield 165) 12 := ⟨3, rfl, Or.inr rfl, rfl⟩
set_option maxRecDepth 100000 in
theorem lk209_12 : xAt kT209 12 (.istore 5) 14 := ⟨2, rfl, Or.inr rfl, rfl⟩
set_option maxRecDepth 100000 in
theorem lk209_14 : xAt kT209 14 (.iload 5) 16 := ⟨2, rfl, Or.inr rfl, rfl⟩
set_option maxRecDepth 100000 in
theorem lk209_16 : xAt kT209 16 (.ifCond .eq 9) 19 := ⟨3, rfl, Or.inr rfl, rfl⟩
set_option maxRecDepth 100000 in
theorem lk209_19 : xAt kT209 19 (.aload 4) 21 := ⟨2, rfl, Or.inr rfl, rfl⟩
set_option maxRecDepth 100000 in
theorem lk209_21 : xAt kT209 21 (.lload_n 2) 22 := ⟨1, rfl, Or.inr rfl, rfl⟩
set_option maxRecDepth 100000 in
theorem lk209_22 : xAt kT209 22 (.invokevirtual 168) 25 := ⟨3, rfl, Or.inr rfl, rfl⟩
set_option maxRecDepth 100000 in
theorem lk209_25 : xAt kT209 25 (.iload 5) 27 := ⟨2, rfl, Or.inr rfl, rfl⟩
set_option maxRecDepth 100000 in
theorem lk209_27 : xAt kT209 27 (.ireturn) 28 := ⟨1, rfl, Or.inr rfl, rfl⟩
set_option maxRecDepth 100000 in
theorem lk222_0 : xAt kT222 0 (.iload_n 0) 1 := ⟨1, rfl, Or.inr rfl, rfl⟩
set_option maxRecDepth 100000 in
theorem lk222_1 : xAt kT222 1 (.ifCond .lt 19) 4 := ⟨3, rfl, Or.inr rfl, rfl⟩
set_option maxRecDepth 100000 in
theorem lk222_4 : xAt kT222 4 (.iload_n 0) 5 := ⟨1, rfl, Or.inr rfl, rfl⟩
set_option maxRecDepth 100000 in
theorem lk222_5 : xAt kT222 5 (.bipush 16) 7 := ⟨2, rfl, Or.inr rfl, rfl⟩
set_option maxRecDepth 100000 in
theorem lk222_7 : xAt kT222 7 (.if_icmp .ge 13) 10 := ⟨3, rfl, Or.inr rfl, rfl⟩
set_option maxRecDepth 100000 in
theorem lk222_10 : xAt kT222 10 (.iload_n 0) 11 := ⟨1, rfl, Or.inr rfl, rfl⟩
set_option maxRecDepth 100000 in
theorem lk222_11 : xAt kT222 11 (.bipush 7) 13 := ⟨2, rfl, Or.inr rfl, rfl⟩
set_option maxRecDepth 100000 in
theorem lk222_13 : xAt kT222 13 (.if_icmp .eq 7) 16 := ⟨3, rfl, Or.inr rfl, rfl⟩
set_option maxRecDepth 100000 in
theorem lk222_16 : xAt kT222 16 (.iconst 1) 17 := ⟨1, rfl, Or.inr rfl, rfl⟩
set_option maxRecDepth 100000 in
theorem lk222_17 : xAt kT222 17 (.goto 4) 20 := ⟨3, rfl, Or.inr rfl, rfl⟩
set_option maxRecDepth 100000 in
theorem lk222_20 : xAt kT222 20 (.iconst 0) 21 := ⟨1, rfl, Or.inr rfl, rfl⟩
set_option maxRecDepth 100000 in
theorem lk222_21 : xAt kT222 21 (.ireturn) 22 := ⟨1, rfl, Or.inr rfl, rfl⟩
set_option maxRecDepth 100000 in
theorem lk210_0 : xAt kT210 0 (.iload_n 1) 1 := ⟨1, rfl, Or.inr rfl, rfl⟩
set_option maxRecDepth 100000 in
theorem lk210_1 : xAt kT210 1 (.invokestatic 114) 4 := ⟨3, rfl, Or.inr rfl, rfl⟩
set_option maxRecDepth 100000 in
theorem lk210_4 : xAt kT210 4 (.ifCond .eq 10) 7 := ⟨3, rfl, Or.inr rfl, rfl⟩
set_option maxRecDepth 100000 in
theorem lk210_7 : xAt kT210 7 (.iload_n 2) 8 := ⟨1, rfl, Or.inr rfl, rfl⟩
set_option maxRecDepth 100000 in
theorem lk210_8 : xAt kT210 8 (.invokestatic 114) 11 := ⟨3, rfl, Or.inr rfl, rfl⟩
set_option maxRecDepth 100000 in
theorem lk210_11 : xAt kT210 11 (.ifCond .ne 11) 14 := ⟨3, rfl, Or.inr rfl, rfl⟩
set_option maxRecDepth 100000 in
theorem lk210_22 : xAt kT210 22 (.iload_n 3) 23 := ⟨1, rfl, Or.inr rfl, rfl⟩
set_option maxRecDepth 100000 in
theorem lk210_23 : xAt kT210 23 (.iconst 1) 24 := ⟨1, rfl, Or.inr rfl, rfl⟩
set_option maxRecDepth 100000 in
theorem lk210_24 : xAt kT210 24 (.if_icmp .lt 10) 27 := ⟨3, rfl, Or.inr rfl, rfl⟩
set_option maxRecDepth 100000 in
theorem lk210_27 : xAt kT210 27 (.iload_n 3) 28 := ⟨1, rfl, Or.inr rfl, rfl⟩
set_option maxRecDepth 100000 in
theorem lk210_28 : xAt kT210 28 (.sipush 1000) 31 := ⟨3, rfl, Or.inr rfl, rfl⟩
set_option maxRecDepth 100000 in
theorem lk210_31 : xAt kT210 31 (.if_icmp .le 11) 34 := ⟨3, rfl, Or.inr rfl, rfl⟩
set_option maxRecDepth 100000 in
theorem lk210_42 : xAt kT210 42 (.iload_n 1) 43 := ⟨1, rfl, Or.inr rfl, rfl⟩
set_option maxRecDepth 100000 in
theorem lk210_43 : xAt kT210 43 (.bipush 16) 45 := ⟨2, rfl, Or.inr rfl, rfl⟩
set_option maxRecDepth 100000 in
theorem lk210_45 : xAt kT210 45 (.imul) 46 := ⟨1, rfl, Or.inr rfl, rfl⟩
set_option maxRecDepth 100000 in
theorem lk210_46 : xAt kT210 46 (.iload_n 2) 47 := ⟨1, rfl, Or.inr rfl, rfl⟩
set_option maxRecDepth 100000 in
theorem lk210_47 : xAt kT210 47 (.iadd) 48 := ⟨1, rfl, Or.inr rfl, rfl⟩
set_option maxRecDepth 100000 in
theorem lk210_48 : xAt kT210 48 (.istore 4) 50 := ⟨2, rfl, Or.inr rfl, rfl⟩
set_option maxRecDepth 100000 in
theorem lk210_50 : xAt kT210 50 (.aload_n 0) 51 := ⟨1, rfl, Or.inr rfl, rfl⟩
set_option maxRecDepth 100000 in
theorem lk210_51 : xAt kT210 51 (.getfield 42) 54 := ⟨3, rfl, Or.inr rfl, rfl⟩
set_option maxRecDepth 100000 in
theorem lk210_54 : xAt kT210 54 (.getfield 121) 57 := ⟨3, rfl, Or.inr rfl, rfl⟩
set_option maxRecDepth 100000 in
theorem lk210_57 : xAt kT210 57 (.iload 4) 59 := ⟨2, rfl, Or.inr rfl, rfl⟩
set_option maxRecDepth 100000 in
theorem lk210_59 : xAt kT210 59 (.iaload) 60 := ⟨1, rfl, Or.inr rfl, rfl⟩
set_option maxRecDepth 100000 in
theorem lk210_60 : xAt kT210 60 (.istore 5) 62 := ⟨2, rfl, Or.inr rfl, rfl⟩
set_option maxRecDepth 100000 in
theorem lk210_62 : xAt kT210 62 (.aload_n 0) 63 := ⟨1, rfl, Or.inr rfl, rfl⟩
set_option maxRecDepth 100000 in
theorem lk210_63 : xAt kT210 63 (.getfield 42) 66 := ⟨3, rfl, Or.inr rfl, rfl⟩
set_option maxRecDepth 100000 in
theorem lk210_66 : xAt kT210 66 (.getfield 121) 69 := ⟨3, rfl, Or.inr rfl, rfl⟩
set_option maxRecDepth 100000 in
theorem lk210_69 : xAt kT210 69 (.iload 4) 71 := ⟨2, rfl, Or.inr rfl, rfl⟩
set_option maxRecDepth 100000 in
theorem lk210_71 : xAt kT210 71 (.iload_n 3) 72 := ⟨1, rfl, Or.inr rfl, rfl⟩
set_option maxRecDepth 100000 in
theorem lk210_72 : xAt kT210 72 (.iastore) 73 := ⟨1, rfl, Or.inr rfl, rfl⟩
set_option maxRecDepth 100000 in
theorem lk210_73 : xAt kT210 73 (.iload 5) 75 := ⟨2, rfl, Or.inr rfl, rfl⟩
set_option maxRecDepth 100000 in
theorem lk210_75 : xAt kT210 75 (.ireturn) 76 := ⟨1, rfl, Or.inr rfl, rfl⟩
set_option maxRecDepth 100000 in
theorem lk211_0 : xAt kT211 0 (.iload_n 1) 1 := ⟨1, rfl, Or.inr rfl, rfl⟩
set_option maxRecDepth 100000 in
theorem lk211_1 : xAt kT211 1 (.ifCond .lt 9) 4 := ⟨3, rfl, Or.inr rfl, rfl⟩
set_option maxRecDepth 100000 in
theorem lk211_4 : xAt kT211 4 (.iload_n 1) 5 := ⟨1, rfl, Or.inr rfl, rfl⟩
set_option maxRecDepth 100000 in
theorem lk211_5 : xAt kT211 5 (.bipush 20) 7 := ⟨2, rfl, Or.inr rfl, rfl⟩
set_option maxRecDepth 100000 in
theorem lk211_7 : xAt kT211 7 (.if_icmp .le 11) 10 := ⟨3, rfl, Or.inr rfl, rfl⟩
set_option maxRecDepth 100000 in
theorem lk211_18 : xAt kT211 18 (.aload_n 0) 19 := ⟨1, rfl, Or.inr rfl, rfl⟩
set_option maxRecDepth 100000 in
theorem lk211_19 : xAt kT211 19 (.getfield 63) 22 := ⟨3, rfl, Or.inr rfl, rfl⟩
set_option maxRecDepth 100000 in
theorem lk211_22 : xAt kT211 22 (.bipush 20) 24 := ⟨2, rfl, Or.inr rfl, rfl⟩
set_option maxRecDepth 100000 in
theorem lk211_24 : xAt kT211 24 (.if_icmp .ge 11) 27 := ⟨3, rfl, Or.inr rfl, rfl⟩
set_option maxRecDepth 100000 in
theorem lk211_35 : xAt kT211 35 (.aload_n 0) 36 := ⟨1, rfl, Or.inr rfl, rfl⟩
set_option maxRecDepth 100000 in
theorem lk211_36 : xAt kT211 36 (.dup) 37 := ⟨1, rfl, Or.inr rfl, rfl⟩
set_option maxRecDepth 100000 in
theorem lk211_37 : xAt kT211 37 (.getfield 63) 40 := ⟨3, rfl, Or.inr rfl, rfl⟩
set_option maxRecDepth 100000 in
theorem lk211_40 : xAt kT211 40 (.bipush 20) 42 := ⟨2, rfl, Or.inr rfl, rfl⟩
set_option maxRecDepth 100000 in
theorem lk211_42 : xAt kT211 42 (.iload_n 1) 43 := ⟨1, rfl, Or.inr rfl, rfl⟩
set_option maxRecDepth 100000 in
theorem lk211_43 : xAt kT211 43 (.isub) 44 := ⟨1, rfl, Or.inr rfl, rfl⟩
set_option maxRecDepth 100000 in
theorem lk211_44 : xAt kT211 44 (.isub) 45 := ⟨1, rfl, Or.inr rfl, rfl⟩
set_option maxRecDepth 100000 in
theorem lk211_45 : xAt kT211 45 (.putfield 63) 48 := ⟨3, rfl, Or.inr rfl, rfl⟩
set_option maxRecDepth 100000 in
theorem lk211_48 : xAt kT211 48 (.aload_n 0) 49 := ⟨1, rfl, Or.inr rfl, rfl⟩
set_option maxRecDepth 100000 in
theorem lk211_49 : xAt kT211 49 (.getfield 63) 52 := ⟨3, rfl, Or.inr rfl, rfl⟩
set_option maxRecDepth 100000 in
theorem lk211_52 : xAt kT211 52 (.ireturn) 53 := ⟨1, rfl, Or.inr rfl, rfl⟩
set_option maxRecDepth 100000 in
theorem lk212_0 : xAt kT212 0 (.aload_n 0) 1 := ⟨1, rfl, Or.inr rfl, rfl⟩
set_option maxRecDepth 100000 in
theorem lk212_1 : xAt kT212 1 (.iload_n 1) 2 := ⟨1, rfl, Or.inr rfl, rfl⟩
set_option maxRecDepth 100000 in
theorem lk212_2 : xAt kT212 2 (.invokevirtual 155) 5 := ⟨3, rfl, Or.inr rfl, rfl⟩
set_option maxRecDepth 100000 in
theorem lk212_5 : xAt kT212 5 (.astore 4) 7 := ⟨2, rfl, Or.inr rfl, rfl⟩
set_option maxRecDepth 100000 in
theorem lk212_7 : xAt kT212 7 (.aload 4) 9 := ⟨2, rfl, Or.inr rfl, rfl⟩
set_option maxRecDepth 100000 in
theorem lk212_9 : xAt kT212 9 (.getfield 165) 12 := ⟨3, rfl, Or.inr rfl, rfl⟩
set_option maxRecDepth 100000 in
theorem lk212_12 : xAt kT212 12 (.ifCond .eq 12) 15 := ⟨3, rfl, Or.inr rfl, rfl⟩
set_option maxRecDepth 100000 in
theorem lk212_15 : xAt kT212 15 (.iload_n 3) 16 := ⟨1, rfl, Or.inr rfl, rfl⟩
set_option maxRecDepth 100000 in
theorem lk212_16 : xAt kT212 16 (.ifCond .lt 8) 19 := ⟨3, rfl, Or.inr rfl, rfl⟩
set_option maxRecDepth 100000 in
theorem lk212_19 : xAt kT212 19 (.iload_n 3) 20 := ⟨1, rfl, Or.inr rfl, rfl⟩
set_option maxRecDepth 100000 in
theorem lk212_20 : xAt kT212 20 (.iconst 2) 21 := ⟨1, rfl, Or.inr rfl, rfl⟩
set_option maxRecDepth 100000 in
theorem lk212_21 : xAt kT212 21 (.if_icmp .le 11) 24 := ⟨3, rfl, Or.inr rfl, rfl⟩
set_option maxRecDepth 100000 in
theorem lk212_32 : xAt kT212 32 (.aload 4) 34 := ⟨2, rfl, Or.inr rfl, rfl⟩
set_option maxRecDepth 100000 in
theorem lk212_34 : xAt kT212 34 (.getfield 184) 37 := ⟨3, rfl, Or.inr rfl, rfl⟩
set_option maxRecDepth 100000 in
theorem lk212_37 : xAt kT212 37 (.astore 5) 39 := ⟨2, rfl, Or.inr rfl, rfl⟩
set_option maxRecDepth 100000 in
theorem lk212_39 : xAt kT212 39 (.iload_n 2) 40 := ⟨1, rfl, Or.inr rfl, rfl⟩
set_option maxRecDepth 100000 in
theorem lk212_40 : xAt kT212 40 (.aload 5) 42 := ⟨2, rfl, Or.inr rfl, rfl⟩
set_option maxRecDepth 100000 in
theorem lk212_42 : xAt kT212 42 (.getfield 209) 45 := ⟨3, rfl, Or.inr rfl, rfl⟩
set_option maxRecDepth 100000 in
theorem lk212_45 : xAt kT212 45 (.if_icmp .ne 13) 48 := ⟨3, rfl, Or.inr rfl, rfl⟩
set_option maxRecDepth 100000 in
theorem lk212_48 : xAt kT212 48 (.iload_n 3) 49 := ⟨1, rfl, Or.inr rfl, rfl⟩
set_option maxRecDepth 100000 in
theorem lk212_49 : xAt kT212 49 (.ifCond .ne 9) 52 := ⟨3, rfl, Or.inr rfl, rfl⟩
set_option maxRecDepth 100000 in
theorem lk212_52 : xAt kT212 52 (.aload 5) 54 := ⟨2, rfl, Or.inr rfl, rfl⟩
set_option maxRecDepth 100000 in
theorem lk212_54 : xAt kT212 54 (.getfield 212) 57 := ⟨3, rfl, Or.inr rfl, rfl⟩
set_option maxRecDepth 100000 in
theorem lk212_57 : xAt kT212 57 (.ireturn) 58 := ⟨1, rfl, Or.inr rfl, rfl⟩
set_option maxRecDepth 100000 in
theorem lk212_58 : xAt kT212 58 (.aload 5) 60 := ⟨2, rfl, Or.inr rfl, rfl⟩
set_option maxRecDepth 100000 in
theorem lk212_60 : xAt kT212 60 (.iload_n 2) 61 := ⟨1, rfl, Or.inr rfl, rfl⟩
set_option maxRecDepth 100000 in
theorem lk212_61 : xAt kT212 61 (.invokevirtual 215) 64 := ⟨3, rfl, Or.inr rfl, rfl⟩
set_option maxRecDepth 100000 in
theorem lk212_64 : xAt kT212 64 (.ifCond .ne 11) 67 := ⟨3, rfl, Or.inr rfl, rfl⟩
set_option maxRecDepth 100000 in
theorem lk212_75 : xAt kT212 75 (.aload 5) 77 := ⟨2, rfl, Or.inr rfl, rfl⟩
set_option maxRecDepth 100000 in
theorem lk212_77 : xAt kT212 77 (.getfield 218) 80 := ⟨3, rfl, Or.inr rfl, rfl⟩
set_option maxRecDepth 100000 in
theorem lk212_80 : xAt kT212 80 (.aload 5) 82 := ⟨2, rfl, Or.inr rfl, rfl⟩
set_option maxRecDepth 100000 in
theorem lk212_82 : xAt kT212 82 (.iload_n 2) 83 := ⟨1, rfl, Or.inr rfl, rfl⟩
set_option maxRecDepth 100000 in
theorem lk212_83 : xAt kT212 83 (.invokevirtual 221) 86 := ⟨3, rfl, Or.inr rfl, rfl⟩
set_option maxRecDepth 100000 in
theorem lk212_86 : xAt kT212 86 (.iload_n 3) 87 := ⟨1, rfl, Or.inr rfl, rfl⟩
set_option maxRecDepth 100000 in
theorem lk212_87 : xAt kT212 87 (.iadd) 88 := ⟨1, rfl, Or.inr rfl, rfl⟩
set_option maxRecDepth 100000 in
theorem lk212_88 : xAt kT212 88 (.iaload) 89 := ⟨1, rfl, Or.inr rfl, rfl⟩
set_option maxRecDepth 100000 in
theorem lk212_89 : xAt kT212 89 (.ireturn) 90 := ⟨1, rfl, Or.inr rfl, rfl⟩
set_option maxRecDepth 100000 in
theorem lk233_0 : xAt kT233 0 (.bipush 24) 2 := ⟨2, rfl, Or.inr rfl, rfl⟩
set_option maxRecDepth 100000 in
theorem lk233_2 : xAt kT233 2 (.istore_n 2) 3 := ⟨1, rfl, Or.inr rfl, rfl⟩
set_option maxRecDepth 100000 in
theorem lk233_3 : xAt kT233 3 (.iload_n 2) 4 := ⟨1, rfl, Or.inr rfl, rfl⟩
set_option maxRecDepth 100000 in
theorem lk233_4 : xAt kT233 4 (.ifCond .lt 42) 7 := ⟨3, rfl, Or.inr rfl, rfl⟩
set_option maxRecDepth 100000 in
theorem lk233_7 : xAt kT233 7 (.aload_n 0) 8 := ⟨1, rfl, Or.inr rfl, rfl⟩
set_option maxRecDepth 100000 in
theorem lk233_8 : xAt kT233 8 (.getfield 63) 11 := ⟨3, rfl, Or.inr rfl, rfl⟩
set_option maxRecDepth 100000 in
theorem lk233_11 : xAt kT233 11 (.sipush 400) 14 := ⟨3, rfl, Or.inr rfl, rfl⟩
set_option maxRecDepth 100000 in
theorem lk233_14 : xAt kT233 14 (.if_icmp .ge 26) 17 := ⟨3, rfl, Or.inr rfl, rfl⟩
set_option maxRecDepth 100000 in
theorem lk233_17 : xAt kT233 17 (.aload_n 0) 18 := ⟨1, rfl, Or.inr rfl, rfl⟩
set_option maxRecDepth 100000 in
theorem lk233_18 : xAt kT233 18 (.getfield 21) 21 := ⟨3, rfl, Or.inr rfl, rfl⟩
set_option maxRecDepth 100000 in
theorem lk233_21 : xAt kT233 21 (.aload_n 0) 22 := ⟨1, rfl, Or.inr rfl, rfl⟩
set_option maxRecDepth 100000 in
theorem lk233_22 : xAt kT233 22 (.getfield 63) 25 := ⟨3, rfl, Or.inr rfl, rfl⟩
set_option maxRecDepth 100000 in
theorem lk233_25 : xAt kT233 25 (.iload_n 1) 26 := ⟨1, rfl, Or.inr rfl, rfl⟩
set_option maxRecDepth 100000 in
theorem lk233_26 : xAt kT233 26 (.iload_n 2) 27 := ⟨1, rfl, Or.inr rfl, rfl⟩
set_option maxRecDepth 100000 in
theorem lk233_27 : xAt kT233 27 (.ishr) 28 := ⟨1, rfl, Or.inr rfl, rfl⟩
set_option maxRecDepth 100000 in
theorem lk233_28 : xAt kT233 28 (.i2b) 29 := ⟨1, rfl, Or.inr rfl, rfl⟩
set_option maxRecDepth 100000 in
theorem lk233_29 : xAt kT233 29 (.bastore) 30 := ⟨1, rfl, Or.inr rfl, rfl⟩
set_option maxRecDepth 100000 in
theorem lk233_30 : xAt kT233 30 (.aload_n 0) 31 := ⟨1, rfl, Or.inr rfl, rfl⟩
set_option maxRecDepth 100000 in
theorem lk233_31 : xAt kT233 31 (.dup) 32 := ⟨1, rfl, Or.inr rfl, rfl⟩
set_option maxRecDepth 100000 in
theorem lk233_32 : xAt kT233 32 (.getfield 63) 35 := ⟨3, rfl, Or.inr rfl, rfl⟩
set_option maxRecDepth 100000 in
theorem lk233_35 : xAt kT233 35 (.iconst 1) 36 := ⟨1, rfl, Or.inr rfl, rfl⟩
set_option maxRecDepth 100000 in
theorem lk233_36 : xAt kT233 36 (.iadd) 37 := ⟨1, rfl, Or.inr rfl, rfl⟩
set_option maxRecDepth 100000 in
theorem lk233_37 : xAt kT233 37 (.putfield 63) 40 := ⟨3, rfl, Or.inr rfl, rfl⟩
set_option maxRecDepth 100000 in
theorem lk233_40 : xAt kT233 40 (.iinc 2 (-8)) 43 := ⟨3, rfl, Or.inr rfl, rfl⟩
set_option maxRecDepth 100000 in
theorem lk233_43 : xAt kT233 43 (.goto (-40)) 46 := ⟨3, rfl, Or.inr rfl, rfl⟩
set_option maxRecDepth 100000 in
theorem lk233_46 : xAt kT233 46 (.return_) 47 := ⟨1, rfl, Or.inr rfl, rfl⟩
set_option maxRecDepth 100000 in
theorem lk213_0 : xAt kT213 0 (.aload_n 0) 1 := ⟨1, rfl, Or.inr rfl, rfl⟩
set_option maxRecDepth 100000 in
theorem lk213_1 : xAt kT213 1 (.getfield 63) 4 := ⟨3, rfl, Or.inr rfl, rfl⟩
set_option maxRecDepth 100000 in
theorem lk213_4 : xAt kT213 4 (.bipush 20) 6 := ⟨2, rfl, Or.inr rfl, rfl⟩
set_option maxRecDepth 100000 in
theorem lk213_6 : xAt kT213 6 (.iadd) 7 := ⟨1, rfl, Or.inr rfl, rfl⟩
set_option maxRecDepth 100000 in
theorem lk213_7 : xAt kT213 7 (.sipush 400) 10 := ⟨3, rfl, Or.inr rfl, rfl⟩
set_option maxRecDepth 100000 in
theorem lk213_10 : xAt kT213 10 (.if_icmp .le 11) 13 := ⟨3, rfl, Or.inr rfl, rfl⟩
set_option maxRecDepth 100000 in
theorem lk213_21 : xAt kT213 21 (.aload_n 0) 22 := ⟨1, rfl, Or.inr rfl, rfl⟩
set_option maxRecDepth 100000 in
theorem lk213_22 : xAt kT213 22 (.iload_n 1) 23 := ⟨1, rfl, Or.inr rfl, rfl⟩
set_option maxRecDepth 100000 in
theorem lk213_23 : xAt kT213 23 (.invokevirtual 70) 26 := ⟨3, rfl, Or.inr rfl, rfl⟩
set_option maxRecDepth 100000 in
theorem lk213_26 : xAt kT213 26 (.aload_n 0) 27 := ⟨1, rfl, Or.inr rfl, rfl⟩
set_option maxRecDepth 100000 in
theorem lk213_27 : xAt kT213 27 (.iload_n 2) 28 := ⟨1, rfl, Or.inr rfl, rfl⟩
set_option maxRecDepth 100000 in
theorem lk213_28 : xAt kT213 28 (.invokevirtual 70) 31 := ⟨3, rfl, Or.inr rfl, rfl⟩
set_option maxRecDepth 100000 in
theorem lk213_31 : xAt kT213 31 (.aload_n 0) 32 := ⟨1, rfl, Or.inr rfl, rfl⟩
set_option maxRecDepth 100000 in
theorem lk213_32 : xAt kT213 32 (.iload_n 3) 33 := ⟨1, rfl, Or.inr rfl, rfl⟩
set_option maxRecDepth 100000 in
theorem lk213_33 : xAt kT213 33 (.invokevirtual 70) 36 := ⟨3, rfl, Or.inr rfl, rfl⟩
set_option maxRecDepth 100000 in
theorem lk213_36 : xAt kT213 36 (.aload_n 0) 37 := ⟨1, rfl, Or.inr rfl, rfl⟩
set_option maxRecDepth 100000 in
theorem lk213_37 : xAt kT213 37 (.iload 4) 39 := ⟨2, rfl, Or.inr rfl, rfl⟩
set_option maxRecDepth 100000 in
theorem lk213_39 : xAt kT213 39 (.invokevirtual 70) 42 := ⟨3, rfl, Or.inr rfl, rfl⟩
set_option maxRecDepth 100000 in
theorem lk213_42 : xAt kT213 42 (.aload_n 0) 43 := ⟨1, rfl, Or.inr rfl, rfl⟩
set_option maxRecDepth 100000 in
theorem lk213_43 : xAt kT213 43 (.iload 5) 45 := ⟨2, rfl, Or.inr rfl, rfl⟩
set_option maxRecDepth 100000 in
theorem lk213_45 : xAt kT213 45 (.invokevirtual 70) 48 := ⟨3, rfl, Or.inr rfl, rfl⟩
set_option maxRecDepth 100000 in
theorem lk213_48 : xAt kT213 48 (.aload_n 0) 49 := ⟨1, rfl, Or.inr rfl, rfl⟩
set_option maxRecDepth 100000 in
theorem lk213_49 : xAt kT213 49 (.getfield 63) 52 := ⟨3, rfl, Or.inr rfl, rfl⟩
set_option maxRecDepth 100000 in
theorem lk213_52 : xAt kT213 52 (.ireturn) 53 := ⟨1, rfl, Or.inr rfl, rfl⟩
set_option maxRecDepth 100000 in
theorem lk214_0 : xAt kT214 0 (.aload_n 0) 1 := ⟨1, rfl, Or.inr rfl, rfl⟩
set_option maxRecDepth 100000 in
theorem lk214_1 : xAt kT214 1 (.iload_n 1) 2 := ⟨1, rfl, Or.inr rfl, rfl⟩
set_option maxRecDepth 100000 in
theorem lk214_2 : xAt kT214 2 (.invokevirtual 155) 5 := ⟨3, rfl, Or.inr rfl, rfl⟩
set_option maxRecDepth 100000 in
theorem lk214_5 : xAt kT214 5 (.astore 4) 7 := ⟨2, rfl, Or.inr rfl, rfl⟩
set_option maxRecDepth 100000 in
theorem lk214_7 : xAt kT214 7 (.iload_n 2) 8 := ⟨1, rfl, Or.inr rfl, rfl⟩
set_option maxRecDepth 100000 in
theorem lk214_8 : xAt kT214 8 (.ifCond .lt 18) 11 := ⟨3, rfl, Or.inr rfl, rfl⟩
set_option maxRecDepth 100000 in
theorem lk214_11 : xAt kT214 11 (.iload_n 2) 12 := ⟨1, rfl, Or.inr rfl, rfl⟩
set_option maxRecDepth 100000 in
theorem lk214_12 : xAt kT214 12 (.bipush 16) 14 := ⟨2, rfl, Or.inr rfl, rfl⟩
set_option maxRecDepth 100000 in
theorem lk214_14 : xAt kT214 14 (.if_icmp .ge 12) 17 := ⟨3, rfl, Or.inr rfl, rfl⟩
set_option maxRecDepth 100000 in
theorem lk214_17 : xAt kT214 17 (.iload_n 3) 18 := ⟨1, rfl, Or.inr rfl, rfl⟩
set_option maxRecDepth 100000 in
theorem lk214_18 : xAt kT214 18 (.ifCond .lt 8) 21 := ⟨3, rfl, Or.inr rfl, rfl⟩
set_option maxRecDepth 100000 in
theorem lk214_21 : xAt kT214 21 (.iload_n 3) 22 := ⟨1, rfl, Or.inr rfl, rfl⟩
set_option maxRecDepth 100000 in
theorem lk214_22 : xAt kT214 22 (.iconst 4) 23 := ⟨1, rfl, Or.inr rfl, rfl⟩
set_option maxRecDepth 100000 in
theorem lk214_23 : xAt kT214 23 (.if_icmp .le 11) 26 := ⟨3, rfl, Or.inr rfl, rfl⟩
set_option maxRecDepth 100000 in
theorem lk214_34 : xAt kT214 34 (.aload 4) 36 := ⟨2, rfl, Or.inr rfl, rfl⟩
set_option maxRecDepth 100000 in
theorem lk214_36 : xAt kT214 36 (.getfield 224) 39 := ⟨3, rfl, Or.inr rfl, rfl⟩
set_option maxRecDepth 100000 in
theorem lk214_39 : xAt kT214 39 (.iload_n 2) 40 := ⟨1, rfl, Or.inr rfl, rfl⟩
set_option maxRecDepth 100000 in
theorem lk214_40 : xAt kT214 40 (.iload_n 3) 41 := ⟨1, rfl, Or.inr rfl, rfl⟩
set_option maxRecDepth 100000 in
theorem lk214_41 : xAt kT214 41 (.invokevirtual 228) 44 := ⟨3, rfl, Or.inr rfl, rfl⟩
set_option maxRecDepth 100000 in
theorem lk214_44 : xAt kT214 44 (.ireturn) 45 := ⟨1, rfl, Or.inr rfl, rfl⟩
set_option maxRecDepth 100000 in
theorem lk215_0 : xAt kT215 0 (.aload_n 0) 1 := ⟨1, rfl, Or.inr rfl, rfl⟩
set_option maxRecDepth 100000 in
theorem lk215_1 : xAt kT215 1 (.iload_n 1) 2 := ⟨1, rfl, Or.inr rfl, rfl⟩
set_option maxRecDepth 100000 in
theorem lk215_2 : xAt kT215 2 (.invokevirtual 76) 5 := ⟨3, rfl, Or.inr rfl, rfl⟩
set_option maxRecDepth 100000 in
theorem lk215_5 : xAt kT215 5 (.astore_n 2) 6 := ⟨1, rfl, Or.inr rfl, rfl⟩
set_option maxRecDepth 100000 in
theorem lk215_6 : xAt kT215 6 (.aload_n 2) 7 := ⟨1, rfl, Or.inr rfl, rfl⟩
set_option maxRecDepth 100000 in
theorem lk215_7 : xAt kT215 7 (.getfield 84) 10 := ⟨3, rfl, Or.inr rfl, rfl⟩
set_option maxRecDepth 100000 in
theorem lk215_10 : xAt kT215 10 (.istore_n 3) 11 := ⟨1, rfl, Or.inr rfl, rfl⟩
set_option maxRecDepth 100000 in
theorem lk215_11 : xAt kT215 11 (.iload_n 3) 12 := ⟨1, rfl, Or.inr rfl, rfl⟩
set_option maxRecDepth 100000 in
theorem lk215_12 : xAt kT215 12 (.ifCond .eq 7) 15 := ⟨3, rfl, Or.inr rfl, rfl⟩
set_option maxRecDepth 100000 in
theorem lk215_15 : xAt kT215 15 (.aload_n 2) 16 := ⟨1, rfl, Or.inr rfl, rfl⟩
set_option maxRecDepth 100000 in
theorem lk215_16 : xAt kT215 16 (.invokevirtual 102) 19 := ⟨3, rfl, Or.inr rfl, rfl⟩
set_option maxRecDepth 100000 in
theorem lk215_19 : xAt kT215 19 (.iload_n 3) 20 := ⟨1, rfl, Or.inr rfl, rfl⟩
set_option maxRecDepth 100000 in
theorem lk215_20 : xAt kT215 20 (.ireturn) 21 := ⟨1, rfl, Or.inr rfl, rfl⟩
set_option maxRecDepth 100000 in
theorem lk216_0 : xAt kT216 0 (.aload_n 0) 1 := ⟨1, rfl, Or.inr rfl, rfl⟩
set_option maxRecDepth 100000 in
theorem lk216_1 : xAt kT216 1 (.iload_n 1) 2 := ⟨1, rfl, Or.inr rfl, rfl⟩
set_option maxRecDepth 100000 in
theorem lk216_2 : xAt kT216 2 (.invokevirtual 155) 5 := ⟨3, rfl, Or.inr rfl, rfl⟩
set_option maxRecDepth 100000 in
theorem lk216_5 : xAt kT216 5 (.astore_n 3) 6 := ⟨1, rfl, Or.inr rfl, rfl⟩
set_option maxRecDepth 100000 in
theorem lk216_6 : xAt kT216 6 (.aload_n 3) 7 := ⟨1, rfl, Or.inr rfl, rfl⟩
set_option maxRecDepth 100000 in
theorem lk216_7 : xAt kT216 7 (.invokevirtual 196) 10 := ⟨3, rfl, Or.inr rfl, rfl⟩
set_option maxRecDepth 100000 in
theorem lk216_10 : xAt kT216 10 (.ifCond .eq 29) 13 := ⟨3, rfl, Or.inr rfl, rfl⟩
set_option maxRecDepth 100000 in
theorem lk216_13 : xAt kT216 13 (.iload_n 2) 14 := ⟨1, rfl, Or.inr rfl, rfl⟩
set_option maxRecDepth 100000 in
theorem lk216_14 : xAt kT216 14 (.ifCond .lt 25) 17 := ⟨3, rfl, Or.inr rfl, rfl⟩
set_option maxRecDepth 100000 in
theorem lk216_17 : xAt kT216 17 (.iload_n 2) 18 := ⟨1, rfl, Or.inr rfl, rfl⟩
set_option maxRecDepth 100000 in
theorem lk216_18 : xAt kT216 18 (.bipush 7) 20 := ⟨2, rfl, Or.inr rfl, rfl⟩
set_option maxRecDepth 100000 in
theorem lk216_20 : xAt kT216 20 (.if_icmp .ge 19) 23 := ⟨3, rfl, Or.inr rfl, rfl⟩
set_option maxRecDepth 100000 in
theorem lk216_23 : xAt kT216 23 (.iload_n 2) 24 := ⟨1, rfl, Or.inr rfl, rfl⟩
set_option maxRecDepth 100000 in
theorem lk216_24 : xAt kT216 24 (.iload_n 1) 25 := ⟨1, rfl, Or.inr rfl, rfl⟩
set_option maxRecDepth 100000 in
theorem lk216_25 : xAt kT216 25 (.if_icmp .eq 14) 28 := ⟨3, rfl, Or.inr rfl, rfl⟩
set_option maxRecDepth 100000 in
theorem lk216_28 : xAt kT216 28 (.aload_n 3) 29 := ⟨1, rfl, Or.inr rfl, rfl⟩
set_option maxRecDepth 100000 in
theorem lk216_29 : xAt kT216 29 (.invokevirtual 199) 32 := ⟨3, rfl, Or.inr rfl, rfl⟩
set_option maxRecDepth 100000 in
theorem lk216_32 : xAt kT216 32 (.iload_n 2) 33 := ⟨1, rfl, Or.inr rfl, rfl⟩
set_option maxRecDepth 100000 in
theorem lk216_33 : xAt kT216 33 (.ishr) 34 := ⟨1, rfl, Or.inr rfl, rfl⟩
set_option maxRecDepth 100000 in
theorem lk216_34 : xAt kT216 34 (.iconst 1) 35 := ⟨1, rfl, Or.inr rfl, rfl⟩
set_option maxRecDepth 100000 in
theorem lk216_35 : xAt kT216 35 (.iand) 36 := ⟨1, rfl, Or.inr rfl, rfl⟩
set_option maxRecDepth 100000 in
theorem lk216_36 : xAt kT216 36 (.ifCond .ne 5) 39 := ⟨3, rfl, Or.inr rfl, rfl⟩
set_option maxRecDepth 100000 in
theorem lk216_39 : xAt kT216 39 (.iconst 0) 40 := ⟨1, rfl, Or.inr rfl, rfl⟩
set_option maxRecDepth 100000 in
theorem lk216_40 : xAt kT216 40 (.ireturn) 41 := ⟨1, rfl, Or.inr rfl, rfl⟩
set_option maxRecDepth 100000 in
theorem lk216_41 : xAt kT216 41 (.aload_n 3) 42 := ⟨1, rfl, Or.inr rfl, rfl⟩
set_option maxRecDepth 100000 in
theorem lk216_42 : xAt kT216 42 (.iload_n 2) 43 := ⟨1, rfl, Or.inr rfl, rfl⟩
set_option maxRecDepth 100000 in
theorem lk216_43 : xAt kT216 43 (.invokevirtual 203) 46 := ⟨3, rfl, Or.inr rfl, rfl⟩
set_option maxRecDepth 100000 in
theorem lk216_46 : xAt kT216 46 (.iconst 1) 47 := ⟨1, rfl, Or.inr rfl, rfl⟩
set_option maxRecDepth 100000 in
theorem lk216_47 : xAt kT216 47 (.ireturn) 48 := ⟨1, rfl, Or.inr rfl, rfl⟩
set_option maxRecDepth 100000 in
theorem lk218_0 : xAt kT218 0 (.iload_n 1) 1 := ⟨1, rfl, Or.inr rfl, rfl⟩
set_option maxRecDepth 100000 in
theorem lk218_1 : xAt kT218 1 (.ifCond .lt 23) 4 := ⟨3, rfl, Or.inr rfl, rfl⟩
set_option maxRecDepth 100000 in
theorem lk218_4 : xAt kT218 4 (.iload_n 1) 5 := ⟨1, rfl, Or.inr rfl, rfl⟩
set_option maxRecDepth 100000 in
theorem lk218_5 : xAt kT218 5 (.aload_n 0) 6 := ⟨1, rfl, Or.inr rfl, rfl⟩
set_option maxRecDepth 100000 in
theorem lk218_6 : xAt kT218 6 (.getfield 49) 9 := ⟨3, rfl, Or.inr rfl, rfl⟩
set_option maxRecDepth 100000 in
theorem lk218_9 : xAt kT218 9 (.getfield 88) 12 := ⟨3, rfl, Or.inr rfl, rfl⟩
set_option maxRecDepth 100000 in
theorem lk218_12 : xAt kT218 12 (.if_icmp .ge 12) 15 := ⟨3, rfl, Or.inr rfl, rfl⟩
set_option maxRecDepth 100000 in
theorem lk218_15 : xAt kT218 15 (.iload_n 2) 16 := ⟨1, rfl, Or.inr rfl, rfl⟩
set_option maxRecDepth 100000 in
theorem lk218_16 : xAt kT218 16 (.ifCond .lt 8) 19 := ⟨3, rfl, Or.inr rfl, rfl⟩
set_option maxRecDepth 100000 in
theorem lk218_19 : xAt kT218 19 (.iload_n 2) 20 := ⟨1, rfl, Or.inr rfl, rfl⟩
set_option maxRecDepth 100000 in
theorem lk218_20 : xAt kT218 20 (.iconst 5) 21 := ⟨1, rfl, Or.inr rfl, rfl⟩
set_option maxRecDepth 100000 in
theorem lk218_21 : xAt kT218 21 (.if_icmp .le 11) 24 := ⟨3, rfl, Or.inr rfl, rfl⟩
set_option maxRecDepth 100000 in
theorem lk218_32 : xAt kT218 32 (.aload_n 0) 33 := ⟨1, rfl, Or.inr rfl, rfl⟩
set_option maxRecDepth 100000 in
theorem lk218_33 : xAt kT218 33 (.getfield 49) 36 := ⟨3, rfl, Or.inr rfl, rfl⟩
set_option maxRecDepth 100000 in
theorem lk218_36 : xAt kT218 36 (.iload_n 1) 37 := ⟨1, rfl, Or.inr rfl, rfl⟩
set_option maxRecDepth 100000 in
theorem lk218_37 : xAt kT218 37 (.iload_n 2) 38 := ⟨1, rfl, Or.inr rfl, rfl⟩
set_option maxRecDepth 100000 in
theorem lk218_38 : xAt kT218 38 (.invokevirtual 302) 41 := ⟨3, rfl, Or.inr rfl, rfl⟩
set_option maxRecDepth 100000 in
theorem lk218_41 : xAt kT218 41 (.ireturn) 42 := ⟨1, rfl, Or.inr rfl, rfl⟩
set_option maxRecDepth 100000 in
theorem lk226_0 : xAt kT226 0 (.aload_n 0) 1 := ⟨1, rfl, Or.inr rfl, rfl⟩
set_option maxRecDepth 100000 in
theorem lk226_1 : xAt kT226 1 (.iload_n 1) 2 := ⟨1, rfl, Or.inr rfl, rfl⟩
set_option maxRecDepth 100000 in
theorem lk226_2 : xAt kT226 2 (.invokevirtual 155) 5 := ⟨3, rfl, Or.inr rfl, rfl⟩
set_option maxRecDepth 100000 in
theorem lk226_5 : xAt kT226 5 (.astore_n 3) 6 := ⟨1, rfl, Or.inr rfl, rfl⟩
set_option maxRecDepth 100000 in
theorem lk226_6 : xAt kT226 6 (.aload_n 3) 7 := ⟨1, rfl, Or.inr rfl, rfl⟩
set_option maxRecDepth 100000 in
theorem lk226_7 : xAt kT226 7 (.getfield 165) 10 := ⟨3, rfl, Or.inr rfl, rfl⟩
set_option maxRecDepth 100000 in
theorem lk226_10 : xAt kT226 10 (.ifCond .eq 18) 13 := ⟨3, rfl, Or.inr rfl, rfl⟩
set_option maxRecDepth 100000 in
theorem lk226_13 : xAt kT226 13 (.iload_n 2) 14 := ⟨1, rfl, Or.inr rfl, rfl⟩
set_option maxRecDepth 100000 in
theorem lk226_14 : xAt kT226 14 (.ifCond .lt 14) 17 := ⟨3, rfl, Or.inr rfl, rfl⟩
set_option maxRecDepth 100000 in
theorem lk226_17 : xAt kT226 17 (.iload_n 2) 18 := ⟨1, rfl, Or.inr rfl, rfl⟩
set_option maxRecDepth 100000 in
theorem lk226_18 : xAt kT226 18 (.aload_n 3) 19 := ⟨1, rfl, Or.inr rfl, rfl⟩
set_option maxRecDepth 100000 in
theorem lk226_19 : xAt kT226 19 (.getfield 317) 22 := ⟨3, rfl, Or.inr rfl, rfl⟩
set_option maxRecDepth 100000 in
theorem lk226_22 : xAt kT226 22 (.getfield 321) 25 := ⟨3, rfl, Or.inr rfl, rfl⟩
set_option maxRecDepth 100000 in
theorem lk226_25 : xAt kT226 25 (.if_icmp .lt 11) 28 := ⟨3, rfl, Or.inr rfl, rfl⟩
set_option maxRecDepth 100000 in
theorem lk226_36 : xAt kT226 36 (.aload_n 3) 37 := ⟨1, rfl, Or.inr rfl, rfl⟩
set_option maxRecDepth 100000 in
theorem lk226_37 : xAt kT226 37 (.getfield 317) 40 := ⟨3, rfl, Or.inr rfl, rfl⟩
set_option maxRecDepth 100000 in
theorem lk226_40 : xAt kT226 40 (.areturn) 41 := ⟨1, rfl, Or.inr rfl, rfl⟩
set_option maxRecDepth 100000 in
theorem lk79_0 : xAt kT79 0 (.aload_n 0) 1 := ⟨1, rfl, Or.inr rfl, rfl⟩
set_option maxRecDepth 100000 in
theorem lk79_1 : xAt kT79 1 (.getfield 19) 4 := ⟨3, rfl, Or.inr rfl, rfl⟩
set_option maxRecDepth 100000 in
theorem lk79_4 : xAt kT79 4 (.iload_n 1) 5 := ⟨1, rfl, Or.inr rfl, rfl⟩
set_option maxRecDepth 100000 in
theorem lk79_5 : xAt kT79 5 (.iaload) 6 := ⟨1, rfl, Or.inr rfl, rfl⟩
set_option maxRecDepth 100000 in
theorem lk79_6 : xAt kT79 6 (.istore_n 3) 7 := ⟨1, rfl, Or.inr rfl, rfl⟩
set_option maxRecDepth 100000 in
theorem lk79_7 : xAt kT79 7 (.aload_n 0) 8 := ⟨1, rfl, Or.inr rfl, rfl⟩
set_option maxRecDepth 100000 in
theorem lk79_8 : xAt kT79 8 (.getfield 28) 11 := ⟨3, rfl, Or.inr rfl, rfl⟩
set_option maxRecDepth 100000 in
theorem lk79_11 : xAt kT79 11 (.iload_n 3) 12 := ⟨1, rfl, Or.inr rfl, rfl⟩
set_option maxRecDepth 100000 in
theorem lk79_12 : xAt kT79 12 (.sipush 132) 15 := ⟨3, rfl, Or.inr rfl, rfl⟩
set_option maxRecDepth 100000 in
theorem lk79_15 : xAt kT79 15 (.imul) 16 := ⟨1, rfl, Or.inr rfl, rfl⟩
set_option maxRecDepth 100000 in
theorem lk79_16 : xAt kT79 16 (.aload_n 2) 17 := ⟨1, rfl, Or.inr rfl, rfl⟩
set_option maxRecDepth 100000 in
theorem lk79_17 : xAt kT79 17 (.iconst 0) 18 := ⟨1, rfl, Or.inr rfl, rfl⟩
set_option maxRecDepth 100000 in
theorem lk79_18 : xAt kT79 18 (.aload_n 0) 19 := ⟨1, rfl, Or.inr rfl, rfl⟩
set_option maxRecDepth 100000 in
theorem lk79_19 : xAt kT79 19 (.getfield 22) 22 := ⟨3, rfl, Or.inr rfl, rfl⟩
set_option maxRecDepth 100000 in
theorem lk79_22 : xAt kT79 22 (.iload_n 3) 23 := ⟨1, rfl, Or.inr rfl, rfl⟩
set_option maxRecDepth 100000 in
theorem lk79_23 : xAt kT79 23 (.iaload) 24 := ⟨1, rfl, Or.inr rfl, rfl⟩
set_option maxRecDepth 100000 in
theorem lk79_24 : xAt kT79 24 (.invokestatic 68) 27 := ⟨3, rfl, Or.inr rfl, rfl⟩
set_option maxRecDepth 100000 in
theorem lk79_27 : xAt kT79 27 (.aload_n 0) 28 := ⟨1, rfl, Or.inr rfl, rfl⟩
set_option maxRecDepth 100000 in
theorem lk79_28 : xAt kT79 28 (.getfield 22) 31 := ⟨3, rfl, Or.inr rfl, rfl⟩
set_option maxRecDepth 100000 in
theorem lk79_31 : xAt kT79 31 (.iload_n 3) 32 := ⟨1, rfl, Or.inr rfl, rfl⟩
set_option maxRecDepth 100000 in
theorem lk79_32 : xAt kT79 32 (.iaload) 33 := ⟨1, rfl, Or.inr rfl, rfl⟩
set_option maxRecDepth 100000 in
theorem lk79_33 : xAt kT79 33 (.ireturn) 34 := ⟨1, rfl, Or.inr rfl, rfl⟩
set_option maxRecDepth 100000 in
theorem lk223_0 : xAt kT223 0 (.aload_n 0) 1 := ⟨1, rfl, Or.inr rfl, rfl⟩
set_option maxRecDepth 100000 in
theorem lk223_1 : xAt kT223 1 (.iload_n 1) 2 := ⟨1, rfl, Or.inr rfl, rfl⟩
set_option maxRecDepth 100000 in
theorem lk223_2 : xAt kT223 2 (.iload_n 2) 3 := ⟨1, rfl, Or.inr rfl, rfl⟩
set_option maxRecDepth 100000 in
theorem lk223_3 : xAt kT223 3 (.invokevirtual 232) 6 := ⟨3, rfl, Or.inr rfl, rfl⟩
set_option maxRecDepth 100000 in
theorem lk223_6 : xAt kT223 6 (.astore_n 3) 7 := ⟨1, rfl, Or.inr rfl, rfl⟩
set_option maxRecDepth 100000 in
theorem lk223_7 : xAt kT223 7 (.aload_n 0) 8 := ⟨1, rfl, Or.inr rfl, rfl⟩
set_option maxRecDepth 100000 in
theorem lk223_8 : xAt kT223 8 (.aload_n 3) 9 := ⟨1, rfl, Or.inr rfl, rfl⟩
set_option maxRecDepth 100000 in
theorem lk223_9 : xAt kT223 9 (.iload_n 2) 10 := ⟨1, rfl, Or.inr rfl, rfl⟩
set_option maxRecDepth 100000 in
theorem lk223_10 : xAt kT223 10 (.aload_n 0) 11 := ⟨1, rfl, Or.inr rfl, rfl⟩
set_option maxRecDepth 100000 in
theorem lk223_11 : xAt kT223 11 (.getfield 25) 14 := ⟨3, rfl, Or.inr rfl, rfl⟩
set_option maxRecDepth 100000 in
theorem lk223_14 : xAt kT223 14 (.invokevirtual 236) 17 := ⟨3, rfl, Or.inr rfl, rfl⟩
set_option maxRecDepth 100000 in
theorem lk223_17 : xAt kT223 17 (.putfield 242) 20 := ⟨3, rfl, Or.inr rfl, rfl⟩
set_option maxRecDepth 100000 in
theorem lk223_20 : xAt kT223 20 (.aload_n 0) 21 := ⟨1, rfl, Or.inr rfl, rfl⟩
set_option maxRecDepth 100000 in
theorem lk223_21 : xAt kT223 21 (.getfield 242) 24 := ⟨3, rfl, Or.inr rfl, rfl⟩
set_option maxRecDepth 100000 in
theorem lk223_24 : xAt kT223 24 (.ireturn) 25 := ⟨1, rfl, Or.inr rfl, rfl⟩
set_option maxRecDepth 100000 in
theorem lk224_0 : xAt kT224 0 (.aload_n 0) 1 := ⟨1, rfl, Or.inr rfl, rfl⟩
set_option maxRecDepth 100000 in
theorem lk224_1 : xAt kT224 1 (.iload_n 1) 2 := ⟨1, rfl, Or.inr rfl, rfl⟩
set_option maxRecDepth 100000 in
theorem lk224_2 : xAt kT224 2 (.invokevirtual 155) 5 := ⟨3, rfl, Or.inr rfl, rfl⟩
set_option maxRecDepth 100000 in
theorem lk224_5 : xAt kT224 5 (.astore_n 3) 6 := ⟨1, rfl, Or.inr rfl, rfl⟩
set_option maxRecDepth 100000 in
theorem lk224_6 : xAt kT224 6 (.iload_n 2) 7 := ⟨1, rfl, Or.inr rfl, rfl⟩
set_option maxRecDepth 100000 in
theorem lk224_7 : xAt kT224 7 (.ifCond .lt 10) 10 := ⟨3, rfl, Or.inr rfl, rfl⟩
set_option maxRecDepth 100000 in
theorem lk224_10 : xAt kT224 10 (.iload_n 2) 11 := ⟨1, rfl, Or.inr rfl, rfl⟩
set_option maxRecDepth 100000 in
theorem lk224_11 : xAt kT224 11 (.sipush 1000) 14 := ⟨3, rfl, Or.inr rfl, rfl⟩
set_option maxRecDepth 100000 in
theorem lk224_14 : xAt kT224 14 (.if_icmp .le 11) 17 := ⟨3, rfl, Or.inr rfl, rfl⟩
set_option maxRecDepth 100000 in
theorem lk224_25 : xAt kT224 25 (.aload_n 0) 26 := ⟨1, rfl, Or.inr rfl, rfl⟩
set_option maxRecDepth 100000 in
theorem lk224_26 : xAt kT224 26 (.getfield 42) 29 := ⟨3, rfl, Or.inr rfl, rfl⟩
set_option maxRecDepth 100000 in
theorem lk224_29 : xAt kT224 29 (.getfield 159) 32 := ⟨3, rfl, Or.inr rfl, rfl⟩
set_option maxRecDepth 100000 in
theorem lk224_32 : xAt kT224 32 (.aload_n 3) 33 := ⟨1, rfl, Or.inr rfl, rfl⟩
set_option maxRecDepth 100000 in
theorem lk224_33 : xAt kT224 33 (.getfield 162) 36 := ⟨3, rfl, Or.inr rfl, rfl⟩
set_option maxRecDepth 100000 in
theorem lk224_36 : xAt kT224 36 (.iaload) 37 := ⟨1, rfl, Or.inr rfl, rfl⟩
set_option maxRecDepth 100000 in
theorem lk224_37 : xAt kT224 37 (.istore 4) 39 := ⟨2, rfl, Or.inr rfl, rfl⟩
set_option maxRecDepth 100000 in
theorem lk224_39 : xAt kT224 39 (.aload_n 0) 40 := ⟨1, rfl, Or.inr rfl, rfl⟩
set_option maxRecDepth 100000 in
theorem lk224_40 : xAt kT224 40 (.getfield 42) 43 := ⟨3, rfl, Or.inr rfl, rfl⟩
set_option maxRecDepth 100000 in
theorem lk224_43 : xAt kT224 43 (.getfield 159) 46 := ⟨3, rfl, Or.inr rfl, rfl⟩
set_option maxRecDepth 100000 in
theorem lk224_46 : xAt kT224 46 (.aload_n 3) 47 := ⟨1, rfl, Or.inr rfl, rfl⟩
set_option maxRecDepth 100000 in
theorem lk224_47 : xAt kT224 47 (.getfield 162) 50 := ⟨3, rfl, Or.inr rfl, rfl⟩
set_option maxRecDepth 100000 in
theorem lk224_50 : xAt kT224 50 (.iload_n 2) 51 := ⟨1, rfl, Or.inr rfl, rfl⟩
set_option maxRecDepth 100000 in
theorem lk224_51 : xAt kT224 51 (.iastore) 52 := ⟨1, rfl, Or.inr rfl, rfl⟩
set_option maxRecDepth 100000 in
theorem lk224_52 : xAt kT224 52 (.iload 4) 54 := ⟨2, rfl, Or.inr rfl, rfl⟩
set_option maxRecDepth 100000 in
theorem lk224_54 : xAt kT224 54 (.ireturn) 55 := ⟨1, rfl, Or.inr rfl, rfl⟩
set_option maxRecDepth 100000 in
theorem lk225_0 : xAt kT225 0 (.aload_n 0) 1 := ⟨1, rfl, Or.inr rfl, rfl⟩
set_option maxRecDepth 100000 in
theorem lk225_1 : xAt kT225 1 (.iload_n 1) 2 := ⟨1, rfl, Or.inr rfl, rfl⟩
set_option maxRecDepth 100000 in
theorem lk225_2 : xAt kT225 2 (.invokevirtual 155) 5 := ⟨3, rfl, Or.inr rfl, rfl⟩
set_option maxRecDepth 100000 in
theorem lk225_5 : xAt kT225 5 (.astore_n 3) 6 := ⟨1, rfl, Or.inr rfl, rfl⟩
set_option maxRecDepth 100000 in
theorem lk225_6 : xAt kT225 6 (.aload_n 3) 7 := ⟨1, rfl, Or.inr rfl, rfl⟩
set_option maxRecDepth 100000 in
theorem lk225_7 : xAt kT225 7 (.getfield 184) 10 := ⟨3, rfl, Or.inr rfl, rfl⟩
set_option maxRecDepth 100000 in
theorem lk225_10 : xAt kT225 10 (.getfield 188) 13 := ⟨3, rfl, Or.inr rfl, rfl⟩
set_option maxRecDepth 100000 in
theorem lk225_13 : xAt kT225 13 (.bipush 127) 15 := ⟨2, rfl, Or.inr rfl, rfl⟩
set_option maxRecDepth 100000 in
theorem lk225_15 : xAt kT225 15 (.iand) 16 := ⟨1, rfl, Or.inr rfl, rfl⟩
set_option maxRecDepth 100000 in
theorem lk225_16 : xAt kT225 16 (.istore 4) 18 := ⟨2, rfl, Or.inr rfl, rfl⟩
set_option maxRecDepth 100000 in
theorem lk225_18 : xAt kT225 18 (.aload_n 3) 19 := ⟨1, rfl, Or.inr rfl, rfl⟩
set_option maxRecDepth 100000 in
theorem lk225_19 : xAt kT225 19 (.invokevirtual 177) 22 := ⟨3, rfl, Or.inr rfl, rfl⟩
set_option maxRecDepth 100000 in
theorem lk225_22 : xAt kT225 22 (.ifCond .eq 20) 25 := ⟨3, rfl, Or.inr rfl, rfl⟩
set_option maxRecDepth 100000 in
theorem lk225_25 : xAt kT225 25 (.iload_n 2) 26 := ⟨1, rfl, Or.inr rfl, rfl⟩
set_option maxRecDepth 100000 in
theorem lk225_26 : xAt kT225 26 (.ifCond .lt 16) 29 := ⟨3, rfl, Or.inr rfl, rfl⟩
set_option maxRecDepth 100000 in
theorem lk225_29 : xAt kT225 29 (.iload_n 2) 30 := ⟨1, rfl, Or.inr rfl, rfl⟩
set_option maxRecDepth 100000 in
theorem lk225_30 : xAt kT225 30 (.bipush 127) 32 := ⟨2, rfl, Or.inr rfl, rfl⟩
set_option maxRecDepth 100000 in
theorem lk225_32 : xAt kT225 32 (.if_icmp .gt 10) 35 := ⟨3, rfl, Or.inr rfl, rfl⟩
set_option maxRecDepth 100000 in
theorem lk225_35 : xAt kT225 35 (.iload_n 2) 36 := ⟨1, rfl, Or.inr rfl, rfl⟩
set_option maxRecDepth 100000 in
theorem lk225_36 : xAt kT225 36 (.iload 4) 38 := ⟨2, rfl, Or.inr rfl, rfl⟩
set_option maxRecDepth 100000 in
theorem lk225_38 : xAt kT225 38 (.iand) 39 := ⟨1, rfl, Or.inr rfl, rfl⟩
set_option maxRecDepth 100000 in
theorem lk225_39 : xAt kT225 39 (.ifCond .eq 5) 42 := ⟨3, rfl, Or.inr rfl, rfl⟩
set_option maxRecDepth 100000 in
theorem lk225_42 : xAt kT225 42 (.iconst 0) 43 := ⟨1, rfl, Or.inr rfl, rfl⟩
set_option maxRecDepth 100000 in
theorem lk225_43 : xAt kT225 43 (.ireturn) 44 := ⟨1, rfl, Or.inr rfl, rfl⟩
set_option maxRecDepth 100000 in
theorem lk225_44 : xAt kT225 44 (.aload_n 3) 45 := ⟨1, rfl, Or.inr rfl, rfl⟩
set_option maxRecDepth 100000 in
theorem lk225_45 : xAt kT225 45 (.iload 4) 47 := ⟨2, rfl, Or.inr rfl, rfl⟩
set_option maxRecDepth 100000 in
theorem lk225_47 : xAt kT225 47 (.iload_n 2) 48 := ⟨1, rfl, Or.inr rfl, rfl⟩
set_option maxRecDepth 100000 in
theorem lk225_48 : xAt kT225 48 (.bipush 14) 50 := ⟨2, rfl, Or.inr rfl, rfl⟩
set_option maxRecDepth 100000 in
theorem lk225_50 : xAt kT225 50 (.ishl) 51 := ⟨1, rfl, Or.inr rfl, rfl⟩
set_option maxRecDepth 100000 in
theorem lk225_51 : xAt kT225 51 (.ior) 52 := ⟨1, rfl, Or.inr rfl, rfl⟩
set_option maxRecDepth 100000 in
theorem lk225_52 : xAt kT225 52 (.invokevirtual 193) 55 := ⟨3, rfl, Or.inr rfl, rfl⟩
set_option maxRecDepth 100000 in
theorem lk225_55 : xAt kT225 55 (.iconst 1) 56 := ⟨1, rfl, Or.inr rfl, rfl⟩
set_option maxRecDepth 100000 in
theorem lk225_56 : xAt kT225 56 (.ireturn) 57 := ⟨1, rfl, Or.inr rfl, rfl⟩
set_option maxRecDepth 100000 in
theorem lk227_0 : xAt kT227 0 (.iload_n 2) 1 := ⟨1, rfl, Or.inr rfl, rfl⟩
set_option maxRecDepth 100000 in
theorem lk227_1 : xAt kT227 1 (.ifCond .lt 19) 4 := ⟨3, rfl, Or.inr rfl, rfl⟩
set_option maxRecDepth 100000 in
theorem lk227_4 : xAt kT227 4 (.iload_n 2) 5 := ⟨1, rfl, Or.inr rfl, rfl⟩
set_option maxRecDepth 100000 in
theorem lk227_5 : xAt kT227 5 (.iconst 2) 6 := ⟨1, rfl, Or.inr rfl, rfl⟩
set_option maxRecDepth 100000 in
theorem lk227_6 : xAt kT227 6 (.if_icmp .gt 14) 9 := ⟨3, rfl, Or.inr rfl, rfl⟩
set_option maxRecDepth 100000 in
theorem lk227_9 : xAt kT227 9 (.iload_n 3) 10 := ⟨1, rfl, Or.inr rfl, rfl⟩
set_option maxRecDepth 100000 in
theorem lk227_10 : xAt kT227 10 (.ifCond .lt 10) 13 := ⟨3, rfl, Or.inr rfl, rfl⟩
set_option maxRecDepth 100000 in
theorem lk227_13 : xAt kT227 13 (.iload_n 3) 14 := ⟨1, rfl, Or.inr rfl, rfl⟩
set_option maxRecDepth 100000 in
theorem lk227_14 : xAt kT227 14 (.sipush 1000) 17 := ⟨3, rfl, Or.inr rfl, rfl⟩
set_option maxRecDepth 100000 in
theorem lk227_17 : xAt kT227 17 (.if_icmp .le 11) 20 := ⟨3, rfl, Or.inr rfl, rfl⟩
set_option maxRecDepth 100000 in
theorem lk227_28 : xAt kT227 28 (.aload_n 0) 29 := ⟨1, rfl, Or.inr rfl, rfl⟩
set_option maxRecDepth 100000 in
theorem lk227_29 : xAt kT227 29 (.getfield 42) 32 := ⟨3, rfl, Or.inr rfl, rfl⟩
set_option maxRecDepth 100000 in
theorem lk227_32 : xAt kT227 32 (.iload_n 1) 33 := ⟨1, rfl, Or.inr rfl, rfl⟩
set_option maxRecDepth 100000 in
theorem lk227_33 : xAt kT227 33 (.invokevirtual 142) 36 := ⟨3, rfl, Or.inr rfl, rfl⟩
set_option maxRecDepth 100000 in
theorem lk227_36 : xAt kT227 36 (.ifCond .ne 5) 39 := ⟨3, rfl, Or.inr rfl, rfl⟩
set_option maxRecDepth 100000 in
theorem lk227_39 : xAt kT227 39 (.iconst 0) 40 := ⟨1, rfl, Or.inr rfl, rfl⟩
set_option maxRecDepth 100000 in
theorem lk227_40 : xAt kT227 40 (.ireturn) 41 := ⟨1, rfl, Or.inr rfl, rfl⟩
set_option maxRecDepth 100000 in
theorem lk227_41 : xAt kT227 41 (.iload_n 2) 42 := ⟨1, rfl, Or.inr rfl, rfl⟩
set_option maxRecDepth 100000 in
theorem lk227_42 : xAt kT227 42 (.ifCond .ne 14) 45 := ⟨3, rfl, Or.inr rfl, rfl⟩
set_option maxRecDepth 100000 in
theorem lk227_45 : xAt kT227 45 (.aload_n 0) 46 := ⟨1, rfl, Or.inr rfl, rfl⟩
set_option maxRecDepth 100000 in
theorem lk227_46 : xAt kT227 46 (.getfield 42) 49 := ⟨3, rfl, Or.inr rfl, rfl⟩
set_option maxRecDepth 100000 in
theorem lk227_49 : xAt kT227 49 (.iload_n 1) 50 := ⟨1, rfl, Or.inr rfl, rfl⟩
set_option maxRecDepth 100000 in
theorem lk227_50 : xAt kT227 50 (.invokevirtual 145) 53 := ⟨3, rfl, Or.inr rfl, rfl⟩
set_option maxRecDepth 100000 in
theorem lk227_53 : xAt kT227 53 (.goto 28) 56 := ⟨3, rfl, Or.inr rfl, rfl⟩
set_option maxRecDepth 100000 in
theorem lk227_56 : xAt kT227 56 (.iload_n 2) 57 := ⟨1, rfl, Or.inr rfl, rfl⟩
set_option maxRecDepth 100000 in
theorem lk227_57 : xAt kT227 57 (.iconst 1) 58 := ⟨1, rfl, Or.inr rfl, rfl⟩
set_option maxRecDepth 100000 in
theorem lk227_58 : xAt kT227 58 (.if_icmp .ne 14) 61 := ⟨3, rfl, Or.inr rfl, rfl⟩
set_option maxRecDepth 100000 in
theorem lk227_61 : xAt kT227 61 (.aload_n 0) 62 := ⟨1, rfl, Or.inr rfl, rfl⟩
set_option maxRecDepth 100000 in
theorem lk227_62 : xAt kT227 62 (.getfield 42) 65 := ⟨3, rfl, Or.inr rfl, rfl⟩
set_option maxRecDepth 100000 in
theorem lk227_65 : xAt kT227 65 (.iload_n 1) 66 := ⟨1, rfl, Or.inr rfl, rfl⟩
set_option maxRecDepth 100000 in
theorem lk227_66 : xAt kT227 66 (.invokevirtual 148) 69 := ⟨3, rfl, Or.inr rfl, rfl⟩
set_option maxRecDepth 100000 in
theorem lk227_69 : xAt kT227 69 (.goto 12) 72 := ⟨3, rfl, Or.inr rfl, rfl⟩
set_option maxRecDepth 100000 in
theorem lk227_72 : xAt kT227 72 (.aload_n 0) 73 := ⟨1, rfl, Or.inr rfl, rfl⟩
set_option maxRecDepth 100000 in
theorem lk227_73 : xAt kT227 73 (.getfield 42) 76 := ⟨3, rfl, Or.inr rfl, rfl⟩
set_option maxRecDepth 100000 in
theorem lk227_76 : xAt kT227 76 (.iload_n 1) 77 := ⟨1, rfl, Or.inr rfl, rfl⟩
set_option maxRecDepth 100000 in
theorem lk227_77 : xAt kT227 77 (.iload_n 3) 78 := ⟨1, rfl, Or.inr rfl, rfl⟩
set_option maxRecDepth 100000 in
theorem lk227_78 : xAt kT227 78 (.invokevirtual 151) 81 := ⟨3, rfl, Or.inr rfl, rfl⟩
set_option maxRecDepth 100000 in
theorem lk227_81 : xAt kT227 81 (.iconst 1) 82 := ⟨1, rfl, Or.inr rfl, rfl⟩
set_option maxRecDepth 100000 in
theorem lk227_82 : xAt kT227 82 (.ireturn) 83 := ⟨1, rfl, Or.inr rfl, rfl⟩
set_option maxRecDepth 100000 in
theorem lk228_0 : xAt kT228 0 (.aload_n 0) 1 := ⟨1, rfl, Or.inr rfl, rfl⟩
set_option maxRecDepth 100000 in
theorem lk228_1 : xAt kT228 1 (.iload_n 1) 2 := ⟨1, rfl, Or.inr rfl, rfl⟩
set_option maxRecDepth 100000 in
theorem lk228_2 : xAt kT228 2 (.invokevirtual 155) 5 := ⟨3, rfl, Or.inr rfl, rfl⟩
set_option maxRecDepth 100000 in
theorem lk228_5 : xAt kT228 5 (.astore_n 3) 6 := ⟨1, rfl, Or.inr rfl, rfl⟩
set_option maxRecDepth 100000 in
theorem lk228_6 : xAt kT228 6 (.aload_n 3) 7 := ⟨1, rfl, Or.inr rfl, rfl⟩
set_option maxRecDepth 100000 in
theorem lk228_7 : xAt kT228 7 (.invokevirtual 177) 10 := ⟨3, rfl, Or.inr rfl, rfl⟩
set_option maxRecDepth 100000 in
theorem lk228_10 : xAt kT228 10 (.ifCond .eq 22) 13 := ⟨3, rfl, Or.inr rfl, rfl⟩
set_option maxRecDepth 100000 in
theorem lk228_13 : xAt kT228 13 (.iload_n 2) 14 := ⟨1, rfl, Or.inr rfl, rfl⟩
set_option maxRecDepth 100000 in
theorem lk228_14 : xAt kT228 14 (.iconst 1) 15 := ⟨1, rfl, Or.inr rfl, rfl⟩
set_option maxRecDepth 100000 in
theorem lk228_15 : xAt kT228 15 (.if_icmp .lt 17) 18 := ⟨3, rfl, Or.inr rfl, rfl⟩
set_option maxRecDepth 100000 in
theorem lk228_18 : xAt kT228 18 (.iload_n 2) 19 := ⟨1, rfl, Or.inr rfl, rfl⟩
set_option maxRecDepth 100000 in
theorem lk228_19 : xAt kT228 19 (.bipush 127) 21 := ⟨2, rfl, Or.inr rfl, rfl⟩
set_option maxRecDepth 100000 in
theorem lk228_21 : xAt kT228 21 (.if_icmp .gt 11) 24 := ⟨3, rfl, Or.inr rfl, rfl⟩
set_option maxRecDepth 100000 in
theorem lk228_24 : xAt kT228 24 (.aload_n 3) 25 := ⟨1, rfl, Or.inr rfl, rfl⟩
set_option maxRecDepth 100000 in
theorem lk228_25 : xAt kT228 25 (.iload_n 2) 26 := ⟨1, rfl, Or.inr rfl, rfl⟩
set_option maxRecDepth 100000 in
theorem lk228_26 : xAt kT228 26 (.invokevirtual 181) 29 := ⟨3, rfl, Or.inr rfl, rfl⟩
set_option maxRecDepth 100000 in
theorem lk228_29 : xAt kT228 29 (.ifCond .ne 5) 32 := ⟨3, rfl, Or.inr rfl, rfl⟩
set_option maxRecDepth 100000 in
theorem lk228_32 : xAt kT228 32 (.iconst 0) 33 := ⟨1, rfl, Or.inr rfl, rfl⟩
set_option maxRecDepth 100000 in
theorem lk228_33 : xAt kT228 33 (.ireturn) 34 := ⟨1, rfl, Or.inr rfl, rfl⟩
set_option maxRecDepth 100000 in
theorem lk228_34 : xAt kT228 34 (.aload_n 3) 35 := ⟨1, rfl, Or.inr rfl, rfl⟩
set_option maxRecDepth 100000 in
theorem lk228_35 : xAt kT228 35 (.getfield 184) 38 := ⟨3, rfl, Or.inr rfl, rfl⟩
set_option maxRecDepth 100000 in
theorem lk228_38 : xAt kT228 38 (.getfield 188) 41 := ⟨3, rfl, Or.inr rfl, rfl⟩
set_option maxRecDepth 100000 in
theorem lk228_41 : xAt kT228 41 (.istore 4) 43 := ⟨2, rfl, Or.inr rfl, rfl⟩
set_option maxRecDepth 100000 in
theorem lk228_43 : xAt kT228 43 (.iload 4) 45 := ⟨2, rfl, Or.inr rfl, rfl⟩
set_option maxRecDepth 100000 in
theorem lk228_45 : xAt kT228 45 (.bipush 14) 47 := ⟨2, rfl, Or.inr rfl, rfl⟩
set_option maxRecDepth 100000 in
theorem lk228_47 : xAt kT228 47 (.ishr) 48 := ⟨1, rfl, Or.inr rfl, rfl⟩
set_option maxRecDepth 100000 in
theorem lk228_48 : xAt kT228 48 (.iload_n 2) 49 := ⟨1, rfl, Or.inr rfl, rfl⟩
set_option maxRecDepth 100000 in
theorem lk228_49 : xAt kT228 49 (.iconst (-1)) 50 := ⟨1, rfl, Or.inr rfl, rfl⟩
set_option maxRecDepth 100000 in
theorem lk228_50 : xAt kT228 50 (.ixor) 51 := ⟨1, rfl, Or.inr rfl, rfl⟩
set_option maxRecDepth 100000 in
theorem lk228_51 : xAt kT228 51 (.iand) 52 := ⟨1, rfl, Or.inr rfl, rfl⟩
set_option maxRecDepth 100000 in
theorem lk228_52 : xAt kT228 52 (.istore 5) 54 := ⟨2, rfl, Or.inr rfl, rfl⟩
set_option maxRecDepth 100000 in
theorem lk228_54 : xAt kT228 54 (.aload_n 3) 55 := ⟨1, rfl, Or.inr rfl, rfl⟩
set_option maxRecDepth 100000 in
theorem lk228_55 : xAt kT228 55 (.iload 4) 57 := ⟨2, rfl, Or.inr rfl, rfl⟩
set_option maxRecDepth 100000 in
theorem lk228_57 : xAt kT228 57 (.bipush 127) 59 := ⟨2, rfl, Or.inr rfl, rfl⟩
set_option maxRecDepth 100000 in
theorem lk228_59 : xAt kT228 59 (.iand) 60 := ⟨1, rfl, Or.inr rfl, rfl⟩
set_option maxRecDepth 100000 in
theorem lk228_60 : xAt kT228 60 (.iload_n 2) 61 := ⟨1, rfl, Or.inr rfl, rfl⟩
set_option maxRecDepth 100000 in
theorem lk228_61 : xAt kT228 61 (.bipush 7) 63 := ⟨2, rfl, Or.inr rfl, rfl⟩
set_option maxRecDepth 100000 in
theorem lk228_63 : xAt kT228 63 (.ishl) 64 := ⟨1, rfl, Or.inr rfl, rfl⟩
set_option maxRecDepth 100000 in
theorem lk228_64 : xAt kT228 64 (.ior) 65 := ⟨1, rfl, Or.inr rfl, rfl⟩
set_option maxRecDepth 100000 in
theorem lk228_65 : xAt kT228 65 (.iload 5) 67 := ⟨2, rfl, Or.inr rfl, rfl⟩
set_option maxRecDepth 100000 in
theorem lk228_67 : xAt kT228 67 (.bipush 14) 69 := ⟨2, rfl, Or.inr rfl, rfl⟩
set_option maxRecDepth 100000 in
theorem lk228_69 : xAt kT228 69 (.ishl) 70 := ⟨1, rfl, Or.inr rfl, rfl⟩
set_option maxRecDepth 100000 in
theorem lk228_70 : xAt kT228 70 (.ior) 71 := ⟨1, rfl, Or.inr rfl, rfl⟩
set_option maxRecDepth 100000 in
theorem lk228_71 : xAt kT228 71 (.invokevirtual 193) 74 := ⟨3, rfl, Or.inr rfl, rfl⟩
set_option maxRecDepth 100000 in
theorem lk228_74 : xAt kT228 74 (.iconst 1) 75 := ⟨1, rfl, Or.inr rfl, rfl⟩
set_option maxRecDepth 100000 in
theorem lk228_75 : xAt kT228 75 (.ireturn) 76 := ⟨1, rfl, Or.inr rfl, rfl⟩
set_option maxRecDepth 100000 in
theorem lk229_0 : xAt kT229 0 (.aload_n 0) 1 := ⟨1, rfl, Or.inr rfl, rfl⟩
set_option maxRecDepth 100000 in
theorem lk229_1 : xAt kT229 1 (.getfield 42) 4 := ⟨3, rfl, Or.inr rfl, rfl⟩
set_option maxRecDepth 100000 in
theorem lk229_4 : xAt kT229 4 (.iload_n 1) 5 := ⟨1, rfl, Or.inr rfl, rfl⟩
set_option maxRecDepth 100000 in
theorem lk229_5 : xAt kT229 5 (.invokevirtual 142) 8 := ⟨3, rfl, Or.inr rfl, rfl⟩
set_option maxRecDepth 100000 in
theorem lk229_8 : xAt kT229 8 (.ifCond .eq 12) 11 := ⟨3, rfl, Or.inr rfl, rfl⟩
set_option maxRecDepth 100000 in
theorem lk229_11 : xAt kT229 11 (.iload_n 2) 12 := ⟨1, rfl, Or.inr rfl, rfl⟩
set_option maxRecDepth 100000 in
theorem lk229_12 : xAt kT229 12 (.ifCond .lt 8) 15 := ⟨3, rfl, Or.inr rfl, rfl⟩
set_option maxRecDepth 100000 in
theorem lk229_15 : xAt kT229 15 (.iload_n 2) 16 := ⟨1, rfl, Or.inr rfl, rfl⟩
set_option maxRecDepth 100000 in
theorem lk229_16 : xAt kT229 16 (.iconst 4) 17 := ⟨1, rfl, Or.inr rfl, rfl⟩
set_option maxRecDepth 100000 in
theorem lk229_17 : xAt kT229 17 (.if_icmp .le 11) 20 := ⟨3, rfl, Or.inr rfl, rfl⟩
set_option maxRecDepth 100000 in
theorem lk229_28 : xAt kT229 28 (.aload_n 0) 29 := ⟨1, rfl, Or.inr rfl, rfl⟩
set_option maxRecDepth 100000 in
theorem lk229_29 : xAt kT229 29 (.getfield 42) 32 := ⟨3, rfl, Or.inr rfl, rfl⟩
set_option maxRecDepth 100000 in
theorem lk229_32 : xAt kT229 32 (.getfield 248) 35 := ⟨3, rfl, Or.inr rfl, rfl⟩
set_option maxRecDepth 100000 in
theorem lk229_35 : xAt kT229 35 (.iload_n 1) 36 := ⟨1, rfl, Or.inr rfl, rfl⟩
set_option maxRecDepth 100000 in
theorem lk229_36 : xAt kT229 36 (.invokevirtual 252) 39 := ⟨3, rfl, Or.inr rfl, rfl⟩
set_option maxRecDepth 100000 in
theorem lk229_39 : xAt kT229 39 (.checkcast 258) 42 := ⟨3, rfl, Or.inr rfl, rfl⟩
set_option maxRecDepth 100000 in
theorem lk229_42 : xAt kT229 42 (.astore_n 3) 43 := ⟨1, rfl, Or.inr rfl, rfl⟩
set_option maxRecDepth 100000 in
theorem lk229_43 : xAt kT229 43 (.iload_n 2) 44 := ⟨1, rfl, Or.inr rfl, rfl⟩
set_option maxRecDepth 100000 in
theorem lk229_44 : xAt kT229 44 (.tableswitch 52 0 3 #[32, 37, 42, 47]) 76 := ⟨32, rfl, Or.inl rfl, rfl⟩
set_option maxRecDepth 100000 in
theorem lk229_76 : xAt kT229 76 (.aload_n 3) 77 := ⟨1, rfl, Or.inr rfl, rfl⟩
set_option maxRecDepth 100000 in
theorem lk229_77 : xAt kT229 77 (.getfield 260) 80 := ⟨3, rfl, Or.inr rfl, rfl⟩
set_option maxRecDepth 100000 in
theorem lk229_80 : xAt kT229 80 (.ireturn) 81 := ⟨1, rfl, Or.inr rfl, rfl⟩
set_option maxRecDepth 100000 in
theorem lk229_81 : xAt kT229 81 (.aload_n 3) 82 := ⟨1, rfl, Or.inr rfl, rfl⟩
set_option maxRecDepth 100000 in
theorem lk229_82 : xAt kT229 82 (.getfield 263) 85 := ⟨3, rfl, Or.inr rfl, rfl⟩
set_option maxRecDepth 100000 in
theorem lk229_85 : xAt kT229 85 (.ireturn) 86 := ⟨1, rfl, Or.inr rfl, rfl⟩
set_option maxRecDepth 100000 in
theorem lk229_86 : xAt kT229 86 (.aload_n 3) 87 := ⟨1, rfl, Or.inr rfl, rfl⟩
set_option maxRecDepth 100000 in
theorem lk229_87 : xAt kT229 87 (.getfield 266) 90 := ⟨3, rfl, Or.inr rfl, rfl⟩
set_option maxRecDepth 100000 in
theorem lk229_90 : xAt kT229 90 (.ireturn) 91 := ⟨1, rfl, Or.inr rfl, rfl⟩
set_option maxRecDepth 100000 in
theorem lk229_91 : xAt kT229 91 (.aload_n 3) 92 := ⟨1, rfl, Or.inr rfl, rfl⟩
set_option maxRecDepth 100000 in
theorem lk229_92 : xAt kT229 92 (.getfield 269) 95 := ⟨3, rfl, Or.inr rfl, rfl⟩
set_option maxRecDepth 100000 in
theorem lk229_95 : xAt kT229 95 (.ireturn) 96 := ⟨1, rfl, Or.inr rfl, rfl⟩
set_option maxRecDepth 100000 in
theorem lk229_96 : xAt kT229 96 (.aload_n 3) 97 := ⟨1, rfl, Or.inr rfl, rfl⟩
set_option maxRecDepth 100000 in
theorem lk229_97 : xAt kT229 97 (.getfield 272) 100 := ⟨3, rfl, Or.inr rfl, rfl⟩
set_option maxRecDepth 100000 in
theorem lk229_100 : xAt kT229 100 (.ireturn) 101 := ⟨1, rfl, Or.inr rfl, rfl⟩
set_option maxRecDepth 100000 in
theorem lk230_0 : xAt kT230 0 (.iload_n 1) 1 := ⟨1, rfl, Or.inr rfl, rfl⟩
set_option maxRecDepth 100000 in
theorem lk230_1 : xAt kT230 1 (.ifCond .lt 32) 4 := ⟨3, rfl, Or.inr rfl, rfl⟩
set_option maxRecDepth 100000 in
theorem lk230_4 : xAt kT230 4 (.iload_n 1) 5 := ⟨1, rfl, Or.inr rfl, rfl⟩
set_option maxRecDepth 100000 in
theorem lk230_5 : xAt kT230 5 (.sipush 1000) 8 := ⟨3, rfl, Or.inr rfl, rfl⟩
set_option maxRecDepth 100000 in
theorem lk230_8 : xAt kT230 8 (.if_icmp .gt 25) 11 := ⟨3, rfl, Or.inr rfl, rfl⟩
set_option maxRecDepth 100000 in
theorem lk230_11 : xAt kT230 11 (.iload_n 2) 12 := ⟨1, rfl, Or.inr rfl, rfl⟩
set_option maxRecDepth 100000 in
theorem lk230_12 : xAt kT230 12 (.ifCond .lt 21) 15 := ⟨3, rfl, Or.inr rfl, rfl⟩
set_option maxRecDepth 100000 in
theorem lk230_15 : xAt kT230 15 (.iload_n 2) 16 := ⟨1, rfl, Or.inr rfl, rfl⟩
set_option maxRecDepth 100000 in
theorem lk230_16 : xAt kT230 16 (.sipush 1000) 19 := ⟨3, rfl, Or.inr rfl, rfl⟩
set_option maxRecDepth 100000 in
theorem lk230_19 : xAt kT230 19 (.if_icmp .gt 14) 22 := ⟨3, rfl, Or.inr rfl, rfl⟩
set_option maxRecDepth 100000 in
theorem lk230_22 : xAt kT230 22 (.iload_n 3) 23 := ⟨1, rfl, Or.inr rfl, rfl⟩
set_option maxRecDepth 100000 in
theorem lk230_23 : xAt kT230 23 (.ifCond .lt 10) 26 := ⟨3, rfl, Or.inr rfl, rfl⟩
set_option maxRecDepth 100000 in
theorem lk230_26 : xAt kT230 26 (.iload_n 3) 27 := ⟨1, rfl, Or.inr rfl, rfl⟩
set_option maxRecDepth 100000 in
theorem lk230_27 : xAt kT230 27 (.sipush 1000) 30 := ⟨3, rfl, Or.inr rfl, rfl⟩
set_option maxRecDepth 100000 in
theorem lk230_30 : xAt kT230 30 (.if_icmp .le 11) 33 := ⟨3, rfl, Or.inr rfl, rfl⟩
set_option maxRecDepth 100000 in
theorem lk230_41 : xAt kT230 41 (.aload_n 0) 42 := ⟨1, rfl, Or.inr rfl, rfl⟩
set_option maxRecDepth 100000 in
theorem lk230_42 : xAt kT230 42 (.getfield 42) 45 := ⟨3, rfl, Or.inr rfl, rfl⟩
set_option maxRecDepth 100000 in
theorem lk230_45 : xAt kT230 45 (.iload_n 1) 46 := ⟨1, rfl, Or.inr rfl, rfl⟩
set_option maxRecDepth 100000 in
theorem lk230_46 : xAt kT230 46 (.putfield 129) 49 := ⟨3, rfl, Or.inr rfl, rfl⟩
set_option maxRecDepth 100000 in
theorem lk230_49 : xAt kT230 49 (.aload_n 0) 50 := ⟨1, rfl, Or.inr rfl, rfl⟩
set_option maxRecDepth 100000 in
theorem lk230_50 : xAt kT230 50 (.getfield 42) 53 := ⟨3, rfl, Or.inr rfl, rfl⟩
set_option maxRecDepth 100000 in
theorem lk230_53 : xAt kT230 53 (.iload_n 2) 54 := ⟨1, rfl, Or.inr rfl, rfl⟩
set_option maxRecDepth 100000 in
theorem lk230_54 : xAt kT230 54 (.putfield 132) 57 := ⟨3, rfl, Or.inr rfl, rfl⟩
set_option maxRecDepth 100000 in
theorem lk230_57 : xAt kT230 57 (.aload_n 0) 58 := ⟨1, rfl, Or.inr rfl, rfl⟩
set_option maxRecDepth 100000 in
theorem lk230_58 : xAt kT230 58 (.getfield 42) 61 := ⟨3, rfl, Or.inr rfl, rfl⟩
set_option maxRecDepth 100000 in
theorem lk230_61 : xAt kT230 61 (.iload_n 3) 62 := ⟨1, rfl, Or.inr rfl, rfl⟩
set_option maxRecDepth 100000 in
theorem lk230_62 : xAt kT230 62 (.putfield 135) 65 := ⟨3, rfl, Or.inr rfl, rfl⟩
set_option maxRecDepth 100000 in
theorem lk230_65 : xAt kT230 65 (.aload_n 0) 66 := ⟨1, rfl, Or.inr rfl, rfl⟩
set_option maxRecDepth 100000 in
theorem lk230_66 : xAt kT230 66 (.getfield 42) 69 := ⟨3, rfl, Or.inr rfl, rfl⟩
set_option maxRecDepth 100000 in
theorem lk230_69 : xAt kT230 69 (.lload 4) 71 := ⟨2, rfl, Or.inr rfl, rfl⟩
set_option maxRecDepth 100000 in
theorem lk230_71 : xAt kT230 71 (.putfield 138) 74 := ⟨3, rfl, Or.inr rfl, rfl⟩
set_option maxRecDepth 100000 in
theorem lk230_74 : xAt kT230 74 (.return_) 75 := ⟨1, rfl, Or.inr rfl, rfl⟩
set_option maxRecDepth 100000 in
theorem lk231_0 : xAt kT231 0 (.aload_n 0) 1 := ⟨1, rfl, Or.inr rfl, rfl⟩
set_option maxRecDepth 100000 in
theorem lk231_1 : xAt kT231 1 (.getfield 42) 4 := ⟨3, rfl, Or.inr rfl, rfl⟩
set_option maxRecDepth 100000 in
theorem lk231_4 : xAt kT231 4 (.getfield 105) 7 := ⟨3, rfl, Or.inr rfl, rfl⟩
set_option maxRecDepth 100000 in
theorem lk231_7 : xAt kT231 7 (.ireturn) 8 := ⟨1, rfl, Or.inr rfl, rfl⟩
set_option maxRecDepth 100000 in
theorem lk232_0 : xAt kT232 0 (.iload_n 1) 1 := ⟨1, rfl, Or.inr rfl, rfl⟩
set_option maxRecDepth 100000 in
theorem lk232_1 : xAt kT232 1 (.ifCond .lt 9) 4 := ⟨3, rfl, Or.inr rfl, rfl⟩
set_option maxRecDepth 100000 in
theorem lk232_4 : xAt kT232 4 (.iload_n 1) 5 := ⟨1, rfl, Or.inr rfl, rfl⟩
set_option maxRecDepth 100000 in
theorem lk232_5 : xAt kT232 5 (.ldc 125) 7 := ⟨2, rfl, Or.inr rfl, rfl⟩
set_option maxRecDepth 100000 in
theorem lk232_7 : xAt kT232 7 (.if_icmp .lt 11) 10 := ⟨3, rfl, Or.inr rfl, rfl⟩
set_option maxRecDepth 100000 in
theorem lk232_18 : xAt kT232 18 (.aload_n 0) 19 := ⟨1, rfl, Or.inr rfl, rfl⟩
set_option maxRecDepth 100000 in
theorem lk232_19 : xAt kT232 19 (.getfield 42) 22 := ⟨3, rfl, Or.inr rfl, rfl⟩
set_option maxRecDepth 100000 in
theorem lk232_22 : xAt kT232 22 (.getfield 126) 25 := ⟨3, rfl, Or.inr rfl, rfl⟩
set_option maxRecDepth 100000 in
theorem lk232_25 : xAt kT232 25 (.istore_n 2) 26 := ⟨1, rfl, Or.inr rfl, rfl⟩
set_option maxRecDepth 100000 in
theorem lk232_26 : xAt kT232 26 (.aload_n 0) 27 := ⟨1, rfl, Or.inr rfl, rfl⟩
set_option maxRecDepth 100000 in
theorem lk232_27 : xAt kT232 27 (.getfield 42) 30 := ⟨3, rfl, Or.inr rfl, rfl⟩
set_option maxRecDepth 100000 in
theorem lk232_30 : xAt kT232 30 (.iload_n 1) 31 := ⟨1, rfl, Or.inr rfl, rfl⟩
set_option maxRecDepth 100000 in
theorem lk232_31 : xAt kT232 31 (.putfield 126) 34 := ⟨3, rfl, Or.inr rfl, rfl⟩
set_option maxRecDepth 100000 in
theorem lk232_34 : xAt kT232 34 (.iload_n 2) 35 := ⟨1, rfl, Or.inr rfl, rfl⟩
set_option maxRecDepth 100000 in
theorem lk232_35 : xAt kT232 35 (.ireturn) 36 := ⟨1, rfl, Or.inr rfl, rfl⟩
set_option maxRecDepth 100000 in
theorem lk234_0 : xAt kT234 0 (.iload_n 1) 1 := ⟨1, rfl, Or.inr rfl, rfl⟩
set_option maxRecDepth 100000 in
theorem lk234_1 : xAt kT234 1 (.iconst 1) 2 := ⟨1, rfl, Or.inr rfl, rfl⟩
set_option maxRecDepth 100000 in
theorem lk234_2 : xAt kT234 2 (.if_icmp .lt 10) 5 := ⟨3, rfl, Or.inr rfl, rfl⟩
set_option maxRecDepth 100000 in
theorem lk234_5 : xAt kT234 5 (.iload_n 1) 6 := ⟨1, rfl, Or.inr rfl, rfl⟩
set_option maxRecDepth 100000 in
theorem lk234_6 : xAt kT234 6 (.sipush 1000) 9 := ⟨3, rfl, Or.inr rfl, rfl⟩
set_option maxRecDepth 100000 in
theorem lk234_9 : xAt kT234 9 (.if_icmp .le 11) 12 := ⟨3, rfl, Or.inr rfl, rfl⟩
set_option maxRecDepth 100000 in
theorem lk234_20 : xAt kT234 20 (.aload_n 0) 21 := ⟨1, rfl, Or.inr rfl, rfl⟩
set_option maxRecDepth 100000 in
theorem lk234_21 : xAt kT234 21 (.getfield 42) 24 := ⟨3, rfl, Or.inr rfl, rfl⟩
set_option maxRecDepth 100000 in
theorem lk234_24 : xAt kT234 24 (.getfield 105) 27 := ⟨3, rfl, Or.inr rfl, rfl⟩
set_option maxRecDepth 100000 in
theorem lk234_27 : xAt kT234 27 (.iload_n 1) 28 := ⟨1, rfl, Or.inr rfl, rfl⟩
set_option maxRecDepth 100000 in
theorem lk234_28 : xAt kT234 28 (.iadd) 29 := ⟨1, rfl, Or.inr rfl, rfl⟩
set_option maxRecDepth 100000 in
theorem lk234_29 : xAt kT234 29 (.istore_n 2) 30 := ⟨1, rfl, Or.inr rfl, rfl⟩
set_option maxRecDepth 100000 in
theorem lk234_30 : xAt kT234 30 (.iconst 0) 31 := ⟨1, rfl, Or.inr rfl, rfl⟩
set_option maxRecDepth 100000 in
theorem lk234_31 : xAt kT234 31 (.istore_n 3) 32 := ⟨1, rfl, Or.inr rfl, rfl⟩
set_option maxRecDepth 100000 in
theorem lk234_32 : xAt kT234 32 (.iload_n 3) 33 := ⟨1, rfl, Or.inr rfl, rfl⟩
set_option maxRecDepth 100000 in
theorem lk234_33 : xAt kT234 33 (.ldc 108) 35 := ⟨2, rfl, Or.inr rfl, rfl⟩
set_option maxRecDepth 100000 in
theorem lk234_35 : xAt kT234 35 (.if_icmp .ge 18) 38 := ⟨3, rfl, Or.inr rfl, rfl⟩
set_option maxRecDepth 100000 in
theorem lk234_38 : xAt kT234 38 (.aload_n 0) 39 := ⟨1, rfl, Or.inr rfl, rfl⟩
set_option maxRecDepth 100000 in
theorem lk234_39 : xAt kT234 39 (.iload_n 2) 40 := ⟨1, rfl, Or.inr rfl, rfl⟩
set_option maxRecDepth 100000 in
theorem lk234_40 : xAt kT234 40 (.invokevirtual 109) 43 := ⟨3, rfl, Or.inr rfl, rfl⟩
set_option maxRecDepth 100000 in
theorem lk234_43 : xAt kT234 43 (.iconst (-1)) 44 := ⟨1, rfl, Or.inr rfl, rfl⟩
set_option maxRecDepth 100000 in
theorem lk234_44 : xAt kT234 44 (.if_icmp .eq 9) 47 := ⟨3, rfl, Or.inr rfl, rfl⟩
set_option maxRecDepth 100000 in
theorem lk234_47 : xAt kT234 47 (.iinc 3 1) 50 := ⟨3, rfl, Or.inr rfl, rfl⟩
set_option maxRecDepth 100000 in
theorem lk234_50 : xAt kT234 50 (.goto (-18)) 53 := ⟨3, rfl, Or.inr rfl, rfl⟩
set_option maxRecDepth 100000 in
theorem lk234_53 : xAt kT234 53 (.aload_n 0) 54 := ⟨1, rfl, Or.inr rfl, rfl⟩
set_option maxRecDepth 100000 in
theorem lk234_54 : xAt kT234 54 (.getfield 42) 57 := ⟨3, rfl, Or.inr rfl, rfl⟩
set_option maxRecDepth 100000 in
theorem lk234_57 : xAt kT234 57 (.iload_n 2) 58 := ⟨1, rfl, Or.inr rfl, rfl⟩
set_option maxRecDepth 100000 in
theorem lk234_58 : xAt kT234 58 (.putfield 105) 61 := ⟨3, rfl, Or.inr rfl, rfl⟩
set_option maxRecDepth 100000 in
theorem lk234_61 : xAt kT234 61 (.iload_n 3) 62 := ⟨1, rfl, Or.inr rfl, rfl⟩
set_option maxRecDepth 100000 in
theorem lk234_62 : xAt kT234 62 (.ireturn) 63 := ⟨1, rfl, Or.inr rfl, rfl⟩
set_option maxRecDepth 100000 in
theorem lk235_0 : xAt kT235 0 (.aload_n 0) 1 := ⟨1, rfl, Or.inr rfl, rfl⟩
set_option maxRecDepth 100000 in
theorem lk235_1 : xAt kT235 1 (.iload_n 1) 2 := ⟨1, rfl, Or.inr rfl, rfl⟩
set_option maxRecDepth 100000 in
theorem lk235_2 : xAt kT235 2 (.invokevirtual 155) 5 := ⟨3, rfl, Or.inr rfl, rfl⟩
set_option maxRecDepth 100000 in
theorem lk235_5 : xAt kT235 5 (.astore_n 3) 6 := ⟨1, rfl, Or.inr rfl, rfl⟩
set_option maxRecDepth 100000 in
theorem lk235_6 : xAt kT235 6 (.iload_n 2) 7 := ⟨1, rfl, Or.inr rfl, rfl⟩
set_option maxRecDepth 100000 in
theorem lk235_7 : xAt kT235 7 (.ifCond .lt 9) 10 := ⟨3, rfl, Or.inr rfl, rfl⟩
set_option maxRecDepth 100000 in
theorem lk235_10 : xAt kT235 10 (.iload_n 2) 11 := ⟨1, rfl, Or.inr rfl, rfl⟩
set_option maxRecDepth 100000 in
theorem lk235_11 : xAt kT235 11 (.bipush 20) 13 := ⟨2, rfl, Or.inr rfl, rfl⟩
set_option maxRecDepth 100000 in
theorem lk235_13 : xAt kT235 13 (.if_icmp .le 11) 16 := ⟨3, rfl, Or.inr rfl, rfl⟩
set_option maxRecDepth 100000 in
theorem lk235_24 : xAt kT235 24 (.iload_n 2) 25 := ⟨1, rfl, Or.inr rfl, rfl⟩
set_option maxRecDepth 100000 in
theorem lk235_25 : xAt kT235 25 (.ifCond .ne 16) 28 := ⟨3, rfl, Or.inr rfl, rfl⟩
set_option maxRecDepth 100000 in
theorem lk235_28 : xAt kT235 28 (.aload_n 3) 29 := ⟨1, rfl, Or.inr rfl, rfl⟩
set_option maxRecDepth 100000 in
theorem lk235_29 : xAt kT235 29 (.getfield 165) 32 := ⟨3, rfl, Or.inr rfl, rfl⟩
set_option maxRecDepth 100000 in
theorem lk235_32 : xAt kT235 32 (.ifCond .eq 7) 35 := ⟨3, rfl, Or.inr rfl, rfl⟩
set_option maxRecDepth 100000 in
theorem lk235_35 : xAt kT235 35 (.iconst 1) 36 := ⟨1, rfl, Or.inr rfl, rfl⟩
set_option maxRecDepth 100000 in
theorem lk235_36 : xAt kT235 36 (.goto 4) 39 := ⟨3, rfl, Or.inr rfl, rfl⟩
set_option maxRecDepth 100000 in
theorem lk235_39 : xAt kT235 39 (.iconst 0) 40 := ⟨1, rfl, Or.inr rfl, rfl⟩
set_option maxRecDepth 100000 in
theorem lk235_40 : xAt kT235 40 (.ireturn) 41 := ⟨1, rfl, Or.inr rfl, rfl⟩
set_option maxRecDepth 100000 in
theorem lk235_41 : xAt kT235 41 (.aload_n 3) 42 := ⟨1, rfl, Or.inr rfl, rfl⟩
set_option maxRecDepth 100000 in
theorem lk235_42 : xAt kT235 42 (.getfield 165) 45 := ⟨3, rfl, Or.inr rfl, rfl⟩
set_option maxRecDepth 100000 in
theorem lk235_45 : xAt kT235 45 (.ifCond .eq 11) 48 := ⟨3, rfl, Or.inr rfl, rfl⟩
set_option maxRecDepth 100000 in
theorem lk235_48 : xAt kT235 48 (.aload_n 3) 49 := ⟨1, rfl, Or.inr rfl, rfl⟩
set_option maxRecDepth 100000 in
theorem lk235_49 : xAt kT235 49 (.iload_n 2) 50 := ⟨1, rfl, Or.inr rfl, rfl⟩
set_option maxRecDepth 100000 in
theorem lk235_50 : xAt kT235 50 (.invokevirtual 206) 53 := ⟨3, rfl, Or.inr rfl, rfl⟩
set_option maxRecDepth 100000 in
theorem lk235_53 : xAt kT235 53 (.goto 4) 56 := ⟨3, rfl, Or.inr rfl, rfl⟩
set_option maxRecDepth 100000 in
theorem lk235_56 : xAt kT235 56 (.iconst (-1)) 57 := ⟨1, rfl, Or.inr rfl, rfl⟩
set_option maxRecDepth 100000 in
theorem lk235_57 : xAt kT235 57 (.ireturn) 58 := ⟨1, rfl, Or.inr rfl, rfl⟩
set_option maxRecDepth 100000 in
theorem lk236_0 : xAt kT236 0 (.aload_n 0) 1 := ⟨1, rfl, Or.inr rfl, rfl⟩
set_option maxRecDepth 100000 in
theorem lk236_1 : xAt kT236 1 (.iload_n 1) 2 := ⟨1, rfl, Or.inr rfl, rfl⟩
set_option maxRecDepth 100000 in
theorem lk236_2 : xAt kT236 2 (.invokevirtual 155) 5 := ⟨3, rfl, Or.inr rfl, rfl⟩
set_option maxRecDepth 100000 in
theorem lk236_5 : xAt kT236 5 (.astore_n 2) 6 := ⟨1, rfl, Or.inr rfl, rfl⟩
set_option maxRecDepth 100000 in
theorem lk236_6 : xAt kT236 6 (.aload_n 2) 7 := ⟨1, rfl, Or.inr rfl, rfl⟩
set_option maxRecDepth 100000 in
theorem lk236_7 : xAt kT236 7 (.getfield 165) 10 := ⟨3, rfl, Or.inr rfl, rfl⟩
set_option maxRecDepth 100000 in
theorem lk236_10 : xAt kT236 10 (.istore_n 3) 11 := ⟨1, rfl, Or.inr rfl, rfl⟩
set_option maxRecDepth 100000 in
theorem lk236_11 : xAt kT236 11 (.iload_n 3) 12 := ⟨1, rfl, Or.inr rfl, rfl⟩
set_option maxRecDepth 100000 in
theorem lk236_12 : xAt kT236 12 (.ifCond .ne 7) 15 := ⟨3, rfl, Or.inr rfl, rfl⟩
set_option maxRecDepth 100000 in
theorem lk236_15 : xAt kT236 15 (.aload_n 2) 16 := ⟨1, rfl, Or.inr rfl, rfl⟩
set_option maxRecDepth 100000 in
theorem lk236_16 : xAt kT236 16 (.invokevirtual 174) 19 := ⟨3, rfl, Or.inr rfl, rfl⟩
set_option maxRecDepth 100000 in
theorem lk236_19 : xAt kT236 19 (.iload_n 3) 20 := ⟨1, rfl, Or.inr rfl, rfl⟩
set_option maxRecDepth 100000 in
theorem lk236_20 : xAt kT236 20 (.ifCond .ne 7) 23 := ⟨3, rfl, Or.inr rfl, rfl⟩
set_option maxRecDepth 100000 in
theorem lk236_23 : xAt kT236 23 (.iconst 1) 24 := ⟨1, rfl, Or.inr rfl, rfl⟩
set_option maxRecDepth 100000 in
theorem lk236_24 : xAt kT236 24 (.goto 4) 27 := ⟨3, rfl, Or.inr rfl, rfl⟩
set_option maxRecDepth 100000 in
theorem lk236_27 : xAt kT236 27 (.iconst 0) 28 := ⟨1, rfl, Or.inr rfl, rfl⟩
set_option maxRecDepth 100000 in
theorem lk236_28 : xAt kT236 28 (.ireturn) 29 := ⟨1, rfl, Or.inr rfl, rfl⟩
set_option maxRecDepth 100000 in
theorem lk237_0 : xAt kT237 0 (.aload_n 0) 1 := ⟨1, rfl, Or.inr rfl, rfl⟩
set_option maxRecDepth 100000 in
theorem lk237_1 : xAt kT237 1 (.ldc 113) 3 := ⟨2, rfl, Or.inr rfl, rfl⟩
set_option maxRecDepth 100000 in
theorem lk237_3 : xAt kT237 3 (.invokevirtual 109) 6 := ⟨3, rfl, Or.inr rfl, rfl⟩
set_option maxRecDepth 100000 in
theorem lk237_6 : xAt kT237 6 (.ireturn) 7 := ⟨1, rfl, Or.inr rfl, rfl⟩
set_option maxRecDepth 100000 in
theorem lk238_0 : xAt kT238 0 (.aload_n 0) 1 := ⟨1, rfl, Or.inr rfl, rfl⟩
set_option maxRecDepth 100000 in
theorem lk238_1 : xAt kT238 1 (.iload_n 1) 2 := ⟨1, rfl, Or.inr rfl, rfl⟩
set_option maxRecDepth 100000 in
theorem lk238_2 : xAt kT238 2 (.invokevirtual 155) 5 := ⟨3, rfl, Or.inr rfl, rfl⟩
set_option maxRecDepth 100000 in
theorem lk238_5 : xAt kT238 5 (.astore_n 2) 6 := ⟨1, rfl, Or.inr rfl, rfl⟩
set_option maxRecDepth 100000 in
theorem lk238_6 : xAt kT238 6 (.aload_n 2) 7 := ⟨1, rfl, Or.inr rfl, rfl⟩
set_option maxRecDepth 100000 in
theorem lk238_7 : xAt kT238 7 (.getfield 165) 10 := ⟨3, rfl, Or.inr rfl, rfl⟩
set_option maxRecDepth 100000 in
theorem lk238_10 : xAt kT238 10 (.istore_n 3) 11 := ⟨1, rfl, Or.inr rfl, rfl⟩
set_option maxRecDepth 100000 in
theorem lk238_11 : xAt kT238 11 (.iload_n 3) 12 := ⟨1, rfl, Or.inr rfl, rfl⟩
set_option maxRecDepth 100000 in
theorem lk238_12 : xAt kT238 12 (.ifCond .eq 7) 15 := ⟨3, rfl, Or.inr rfl, rfl⟩
set_option maxRecDepth 100000 in
theorem lk238_15 : xAt kT238 15 (.aload_n 2) 16 := ⟨1, rfl, Or.inr rfl, rfl⟩
set_option maxRecDepth 100000 in
theorem lk238_16 : xAt kT238 16 (.invokevirtual 171) 19 := ⟨3, rfl, Or.inr rfl, rfl⟩
set_option maxRecDepth 100000 in
theorem lk238_19 : xAt kT238 19 (.iload_n 3) 20 := ⟨1, rfl, Or.inr rfl, rfl⟩
set_option maxRecDepth 100000 in
theorem lk238_20 : xAt kT238 20 (.ireturn) 21 := ⟨1, rfl, Or.inr rfl, rfl⟩
set_option maxRecDepth 100000 in
theorem lk80_0 : xAt kT80 0 (.aload_n 0) 1 := ⟨1, rfl, Or.inr rfl, rfl⟩
set_option maxRecDepth 100000 in
theorem lk80_1 : xAt kT80 1 (.getfield 19) 4 := ⟨3, rfl, Or.inr rfl, rfl⟩
set_option maxRecDepth 100000 in
theorem lk80_4 : xAt kT80 4 (.iload_n 1) 5 := ⟨1, rfl, Or.inr rfl, rfl⟩
set_option maxRecDepth 100000 in
theorem lk80_5 : xAt kT80 5 (.iaload) 6 := ⟨1, rfl, Or.inr rfl, rfl⟩
set_option maxRecDepth 100000 in
theorem lk80_6 : xAt kT80 6 (.istore_n 3) 7 := ⟨1, rfl, Or.inr rfl, rfl⟩
set_option maxRecDepth 100000 in
theorem lk80_7 : xAt kT80 7 (.aload_n 0) 8 := ⟨1, rfl, Or.inr rfl, rfl⟩
set_option maxRecDepth 100000 in
theorem lk80_8 : xAt kT80 8 (.getfield 28) 11 := ⟨3, rfl, Or.inr rfl, rfl⟩
set_option maxRecDepth 100000 in
theorem lk80_11 : xAt kT80 11 (.iload_n 3) 12 := ⟨1, rfl, Or.inr rfl, rfl⟩
set_option maxRecDepth 100000 in
theorem lk80_12 : xAt kT80 12 (.sipush 132) 15 := ⟨3, rfl, Or.inr rfl, rfl⟩
set_option maxRecDepth 100000 in
theorem lk80_15 : xAt kT80 15 (.imul) 16 := ⟨1, rfl, Or.inr rfl, rfl⟩
set_option maxRecDepth 100000 in
theorem lk80_16 : xAt kT80 16 (.bipush 32) 18 := ⟨2, rfl, Or.inr rfl, rfl⟩
set_option maxRecDepth 100000 in
theorem lk80_18 : xAt kT80 18 (.iadd) 19 := ⟨1, rfl, Or.inr rfl, rfl⟩
set_option maxRecDepth 100000 in
theorem lk80_19 : xAt kT80 19 (.aload_n 2) 20 := ⟨1, rfl, Or.inr rfl, rfl⟩
set_option maxRecDepth 100000 in
theorem lk80_20 : xAt kT80 20 (.iconst 0) 21 := ⟨1, rfl, Or.inr rfl, rfl⟩
set_option maxRecDepth 100000 in
theorem lk80_21 : xAt kT80 21 (.aload_n 0) 22 := ⟨1, rfl, Or.inr rfl, rfl⟩
set_option maxRecDepth 100000 in
theorem lk80_22 : xAt kT80 22 (.getfield 25) 25 := ⟨3, rfl, Or.inr rfl, rfl⟩
set_option maxRecDepth 100000 in
theorem lk80_25 : xAt kT80 25 (.iload_n 3) 26 := ⟨1, rfl, Or.inr rfl, rfl⟩
set_option maxRecDepth 100000 in
theorem lk80_26 : xAt kT80 26 (.iaload) 27 := ⟨1, rfl, Or.inr rfl, rfl⟩
set_option maxRecDepth 100000 in
theorem lk80_27 : xAt kT80 27 (.invokestatic 68) 30 := ⟨3, rfl, Or.inr rfl, rfl⟩
set_option maxRecDepth 100000 in
theorem lk80_30 : xAt kT80 30 (.aload_n 0) 31 := ⟨1, rfl, Or.inr rfl, rfl⟩
set_option maxRecDepth 100000 in
theorem lk80_31 : xAt kT80 31 (.getfield 25) 34 := ⟨3, rfl, Or.inr rfl, rfl⟩
set_option maxRecDepth 100000 in
theorem lk80_34 : xAt kT80 34 (.iload_n 3) 35 := ⟨1, rfl, Or.inr rfl, rfl⟩
set_option maxRecDepth 100000 in
theorem lk80_35 : xAt kT80 35 (.iaload) 36 := ⟨1, rfl, Or.inr rfl, rfl⟩
set_option maxRecDepth 100000 in
theorem lk80_36 : xAt kT80 36 (.ireturn) 37 := ⟨1, rfl, Or.inr rfl, rfl⟩
set_option maxRecDepth 100000 in
theorem lk239_0 : xAt kT239 0 (.aload_n 0) 1 := ⟨1, rfl, Or.inr rfl, rfl⟩
set_option maxRecDepth 100000 in
theorem lk239_1 : xAt kT239 1 (.iload_n 1) 2 := ⟨1, rfl, Or.inr rfl, rfl⟩
set_option maxRecDepth 100000 in
theorem lk239_2 : xAt kT239 2 (.iload_n 2) 3 := ⟨1, rfl, Or.inr rfl, rfl⟩
set_option maxRecDepth 100000 in
theorem lk239_3 : xAt kT239 3 (.invokevirtual 232) 6 := ⟨3, rfl, Or.inr rfl, rfl⟩
set_option maxRecDepth 100000 in
theorem lk239_6 : xAt kT239 6 (.astore_n 3) 7 := ⟨1, rfl, Or.inr rfl, rfl⟩
set_option maxRecDepth 100000 in
theorem lk239_7 : xAt kT239 7 (.aload_n 0) 8 := ⟨1, rfl, Or.inr rfl, rfl⟩
set_option maxRecDepth 100000 in
theorem lk239_8 : xAt kT239 8 (.aload_n 3) 9 := ⟨1, rfl, Or.inr rfl, rfl⟩
set_option maxRecDepth 100000 in
theorem lk239_9 : xAt kT239 9 (.iload_n 2) 10 := ⟨1, rfl, Or.inr rfl, rfl⟩
set_option maxRecDepth 100000 in
theorem lk239_10 : xAt kT239 10 (.aload_n 0) 11 := ⟨1, rfl, Or.inr rfl, rfl⟩
set_option maxRecDepth 100000 in
theorem lk239_11 : xAt kT239 11 (.getfield 25) 14 := ⟨3, rfl, Or.inr rfl, rfl⟩
set_option maxRecDepth 100000 in
theorem lk239_14 : xAt kT239 14 (.invokevirtual 245) 17 := ⟨3, rfl, Or.inr rfl, rfl⟩
set_option maxRecDepth 100000 in
theorem lk239_17 : xAt kT239 17 (.putfield 242) 20 := ⟨3, rfl, Or.inr rfl, rfl⟩
set_option maxRecDepth 100000 in
theorem lk239_20 : xAt kT239 20 (.aload_n 0) 21 := ⟨1, rfl, Or.inr rfl, rfl⟩
set_option maxRecDepth 100000 in
theorem lk239_21 : xAt kT239 21 (.getfield 242) 24 := ⟨3, rfl, Or.inr rfl, rfl⟩
set_option maxRecDepth 100000 in
theorem lk239_24 : xAt kT239 24 (.ireturn) 25 := ⟨1, rfl, Or.inr rfl, rfl⟩
/-- k_Face_ask to where it throws -/
def kt204_A : xK := (kT204.filter fun q => !(xend q.2.1)).map fun q => if [30].contains q.1 then (q.1, .return_, 1) else q
set_option maxRecDepth 100000 in
theorem lt204_A_0 : xAt kt204_A 0 (.aload_n 0) 1 := ⟨1, rfl, Or.inr rfl, rfl⟩
set_option maxRecDepth 100000 in
theorem lt204_A_1 : xAt kt204_A 1 (.getfield 63) 4 := ⟨3, rfl, Or.inr rfl, rfl⟩
set_option maxRecDepth 100000 in
theorem lt204_A_4 : xAt kt204_A 4 (.istore 5) 6 := ⟨2, rfl, Or.inr rfl, rfl⟩
set_option maxRecDepth 100000 in
theorem lt204_A_6 : xAt kt204_A 6 (.aload_n 0) 7 := ⟨1, rfl, Or.inr rfl, rfl⟩
set_option maxRecDepth 100000 in
theorem lt204_A_7 : xAt kt204_A 7 (.iconst 0) 8 := ⟨1, rfl, Or.inr rfl, rfl⟩
set_option maxRecDepth 100000 in
theorem lt204_A_8 : xAt kt204_A 8 (.putfield 63) 11 := ⟨3, rfl, Or.inr rfl, rfl⟩
set_option maxRecDepth 100000 in
theorem lt204_A_11 : xAt kt204_A 11 (.aload_n 0) 12 := ⟨1, rfl, Or.inr rfl, rfl⟩
set_option maxRecDepth 100000 in
theorem lt204_A_12 : xAt kt204_A 12 (.iload_n 1) 13 := ⟨1, rfl, Or.inr rfl, rfl⟩
set_option maxRecDepth 100000 in
theorem lt204_A_13 : xAt kt204_A 13 (.invokevirtual 76) 16 := ⟨3, rfl, Or.inr rfl, rfl⟩
set_option maxRecDepth 100000 in
theorem lt204_A_16 : xAt kt204_A 16 (.astore 6) 18 := ⟨2, rfl, Or.inr rfl, rfl⟩
set_option maxRecDepth 100000 in
theorem lt204_A_18 : xAt kt204_A 18 (.iload_n 2) 19 := ⟨1, rfl, Or.inr rfl, rfl⟩
set_option maxRecDepth 100000 in
theorem lt204_A_19 : xAt kt204_A 19 (.iload_n 3) 20 := ⟨1, rfl, Or.inr rfl, rfl⟩
set_option maxRecDepth 100000 in
theorem lt204_A_20 : xAt kt204_A 20 (.iload 4) 22 := ⟨2, rfl, Or.inr rfl, rfl⟩
set_option maxRecDepth 100000 in
theorem lt204_A_22 : xAt kt204_A 22 (.iload 5) 24 := ⟨2, rfl, Or.inr rfl, rfl⟩
set_option maxRecDepth 100000 in
theorem lt204_A_24 : xAt kt204_A 24 (.invokestatic 80) 27 := ⟨3, rfl, Or.inr rfl, rfl⟩
set_option maxRecDepth 100000 in
theorem lt204_A_27 : xAt kt204_A 27 (.ifCond .ne 11) 30 := ⟨3, rfl, Or.inr rfl, rfl⟩
set_option maxRecDepth 100000 in
theorem lt204_A_30 : xAt kt204_A 30 (.return_) 31 := ⟨1, rfl, Or.inr rfl, rfl⟩
set_option maxRecDepth 100000 in
theorem lt204_A_38 : xAt kt204_A 38 (.aload 6) 40 := ⟨2, rfl, Or.inr rfl, rfl⟩
set_option maxRecDepth 100000 in
theorem lt204_A_40 : xAt kt204_A 40 (.getfield 84) 43 := ⟨3, rfl, Or.inr rfl, rfl⟩
set_option maxRecDepth 100000 in
theorem lt204_A_43 : xAt kt204_A 43 (.ifCond .ne 16) 46 := ⟨3, rfl, Or.inr rfl, rfl⟩
set_option maxRecDepth 100000 in
theorem lt204_A_46 : xAt kt204_A 46 (.aload_n 0) 47 := ⟨1, rfl, Or.inr rfl, rfl⟩
set_option maxRecDepth 100000 in
theorem lt204_A_47 : xAt kt204_A 47 (.getfield 49) 50 := ⟨3, rfl, Or.inr rfl, rfl⟩
set_option maxRecDepth 100000 in
theorem lt204_A_50 : xAt kt204_A 50 (.getfield 88) 53 := ⟨3, rfl, Or.inr rfl, rfl⟩
set_option maxRecDepth 100000 in
theorem lt204_A_53 : xAt kt204_A 53 (.sipush 1024) 56 := ⟨3, rfl, Or.inr rfl, rfl⟩
set_option maxRecDepth 100000 in
theorem lt204_A_56 : xAt kt204_A 56 (.if_icmp .lt 11) 59 := ⟨3, rfl, Or.inr rfl, rfl⟩
set_option maxRecDepth 100000 in
theorem lt204_A_67 : xAt kt204_A 67 (.aload_n 0) 68 := ⟨1, rfl, Or.inr rfl, rfl⟩
set_option maxRecDepth 100000 in
theorem lt204_A_68 : xAt kt204_A 68 (.getfield 49) 71 := ⟨3, rfl, Or.inr rfl, rfl⟩
set_option maxRecDepth 100000 in
theorem lt204_A_71 : xAt kt204_A 71 (.iload_n 1) 72 := ⟨1, rfl, Or.inr rfl, rfl⟩
set_option maxRecDepth 100000 in
theorem lt204_A_72 : xAt kt204_A 72 (.iload_n 2) 73 := ⟨1, rfl, Or.inr rfl, rfl⟩
set_option maxRecDepth 100000 in
theorem lt204_A_73 : xAt kt204_A 73 (.iload_n 3) 74 := ⟨1, rfl, Or.inr rfl, rfl⟩
set_option maxRecDepth 100000 in
theorem lt204_A_74 : xAt kt204_A 74 (.iload 4) 76 := ⟨2, rfl, Or.inr rfl, rfl⟩
set_option maxRecDepth 100000 in
theorem lt204_A_76 : xAt kt204_A 76 (.invokevirtual 91) 79 := ⟨3, rfl, Or.inr rfl, rfl⟩
set_option maxRecDepth 100000 in
theorem lt204_A_79 : xAt kt204_A 79 (.istore 7) 81 := ⟨2, rfl, Or.inr rfl, rfl⟩
set_option maxRecDepth 100000 in
theorem lt204_A_81 : xAt kt204_A 81 (.aload_n 0) 82 := ⟨1, rfl, Or.inr rfl, rfl⟩
set_option maxRecDepth 100000 in
theorem lt204_A_82 : xAt kt204_A 82 (.getfield 49) 85 := ⟨3, rfl, Or.inr rfl, rfl⟩
set_option maxRecDepth 100000 in
theorem lt204_A_85 : xAt kt204_A 85 (.iload 7) 87 := ⟨2, rfl, Or.inr rfl, rfl⟩
set_option maxRecDepth 100000 in
theorem lt204_A_87 : xAt kt204_A 87 (.aload_n 0) 88 := ⟨1, rfl, Or.inr rfl, rfl⟩
set_option maxRecDepth 100000 in
theorem lt204_A_88 : xAt kt204_A 88 (.getfield 21) 91 := ⟨3, rfl, Or.inr rfl, rfl⟩
set_option maxRecDepth 100000 in
theorem lt204_A_91 : xAt kt204_A 91 (.iload 5) 93 := ⟨2, rfl, Or.inr rfl, rfl⟩
set_option maxRecDepth 100000 in
theorem lt204_A_93 : xAt kt204_A 93 (.invokevirtual 95) 96 := ⟨3, rfl, Or.inr rfl, rfl⟩
set_option maxRecDepth 100000 in
theorem lt204_A_96 : xAt kt204_A 96 (.aload 6) 98 := ⟨2, rfl, Or.inr rfl, rfl⟩
set_option maxRecDepth 100000 in
theorem lt204_A_98 : xAt kt204_A 98 (.iload 7) 100 := ⟨2, rfl, Or.inr rfl, rfl⟩
set_option maxRecDepth 100000 in
theorem lt204_A_100 : xAt kt204_A 100 (.invokevirtual 99) 103 := ⟨3, rfl, Or.inr rfl, rfl⟩
set_option maxRecDepth 100000 in
theorem lt204_A_103 : xAt kt204_A 103 (.iload 7) 105 := ⟨2, rfl, Or.inr rfl, rfl⟩
/-- k_Face_ask to where it throws -/
def kt204_S : xK := (kT204.filter fun q => !(xend q.2.1)).map fun q => if [59].contains q.1 then (q.1, .return_, 1) else q
set_option maxRecDepth 100000 in
theorem lt204_S_0 : xAt kt204_S 0 (.aload_n 0) 1 := ⟨1, rfl, Or.inr rfl, rfl⟩
set_option maxRecDepth 100000 in
theorem lt204_S_1 : xAt kt204_S 1 (.getfield 63) 4 := ⟨3, rfl, Or.inr rfl, rfl⟩
set_option maxRecDepth 100000 in
theorem lt204_S_4 : xAt kt204_S 4 (.istore 5) 6 := ⟨2, rfl, Or.inr rfl, rfl⟩
set_option maxRecDepth 100000 in
theorem lt204_S_6 : xAt kt204_S 6 (.aload_n 0) 7 := ⟨1, rfl, Or.inr rfl, rfl⟩
set_option maxRecDepth 100000 in
theorem lt204_S_7 : xAt kt204_S 7 (.iconst 0) 8 := ⟨1, rfl, Or.inr rfl, rfl⟩
set_option maxRecDepth 100000 in
theorem lt204_S_8 : xAt kt204_S 8 (.putfield 63) 11 := ⟨3, rfl, Or.inr rfl, rfl⟩
set_option maxRecDepth 100000 in
theorem lt204_S_11 : xAt kt204_S 11 (.aload_n 0) 12 := ⟨1, rfl, Or.inr rfl, rfl⟩
set_option maxRecDepth 100000 in
theorem lt204_S_12 : xAt kt204_S 12 (.iload_n 1) 13 := ⟨1, rfl, Or.inr rfl, rfl⟩
set_option maxRecDepth 100000 in
theorem lt204_S_13 : xAt kt204_S 13 (.invokevirtual 76) 16 := ⟨3, rfl, Or.inr rfl, rfl⟩
set_option maxRecDepth 100000 in
theorem lt204_S_16 : xAt kt204_S 16 (.astore 6) 18 := ⟨2, rfl, Or.inr rfl, rfl⟩
set_option maxRecDepth 100000 in
theorem lt204_S_18 : xAt kt204_S 18 (.iload_n 2) 19 := ⟨1, rfl, Or.inr rfl, rfl⟩
set_option maxRecDepth 100000 in
theorem lt204_S_19 : xAt kt204_S 19 (.iload_n 3) 20 := ⟨1, rfl, Or.inr rfl, rfl⟩
set_option maxRecDepth 100000 in
theorem lt204_S_20 : xAt kt204_S 20 (.iload 4) 22 := ⟨2, rfl, Or.inr rfl, rfl⟩
set_option maxRecDepth 100000 in
theorem lt204_S_22 : xAt kt204_S 22 (.iload 5) 24 := ⟨2, rfl, Or.inr rfl, rfl⟩
set_option maxRecDepth 100000 in
theorem lt204_S_24 : xAt kt204_S 24 (.invokestatic 80) 27 := ⟨3, rfl, Or.inr rfl, rfl⟩
set_option maxRecDepth 100000 in
theorem lt204_S_27 : xAt kt204_S 27 (.ifCond .ne 11) 30 := ⟨3, rfl, Or.inr rfl, rfl⟩
set_option maxRecDepth 100000 in
theorem lt204_S_38 : xAt kt204_S 38 (.aload 6) 40 := ⟨2, rfl, Or.inr rfl, rfl⟩
set_option maxRecDepth 100000 in
theorem lt204_S_40 : xAt kt204_S 40 (.getfield 84) 43 := ⟨3, rfl, Or.inr rfl, rfl⟩
set_option maxRecDepth 100000 in
theorem lt204_S_43 : xAt kt204_S 43 (.ifCond .ne 16) 46 := ⟨3, rfl, Or.inr rfl, rfl⟩
set_option maxRecDepth 100000 in
theorem lt204_S_46 : xAt kt204_S 46 (.aload_n 0) 47 := ⟨1, rfl, Or.inr rfl, rfl⟩
set_option maxRecDepth 100000 in
theorem lt204_S_47 : xAt kt204_S 47 (.getfield 49) 50 := ⟨3, rfl, Or.inr rfl, rfl⟩
set_option maxRecDepth 100000 in
theorem lt204_S_50 : xAt kt204_S 50 (.getfield 88) 53 := ⟨3, rfl, Or.inr rfl, rfl⟩
set_option maxRecDepth 100000 in
theorem lt204_S_53 : xAt kt204_S 53 (.sipush 1024) 56 := ⟨3, rfl, Or.inr rfl, rfl⟩
set_option maxRecDepth 100000 in
theorem lt204_S_56 : xAt kt204_S 56 (.if_icmp .lt 11) 59 := ⟨3, rfl, Or.inr rfl, rfl⟩
set_option maxRecDepth 100000 in
theorem lt204_S_59 : xAt kt204_S 59 (.return_) 60 := ⟨1, rfl, Or.inr rfl, rfl⟩
set_option maxRecDepth 100000 in
theorem lt204_S_67 : xAt kt204_S 67 (.aload_n 0) 68 := ⟨1, rfl, Or.inr rfl, rfl⟩
set_option maxRecDepth 100000 in
theorem lt204_S_68 : xAt kt204_S 68 (.getfield 49) 71 := ⟨3, rfl, Or.inr rfl, rfl⟩
set_option maxRecDepth 100000 in
theorem lt204_S_71 : xAt kt204_S 71 (.iload_n 1) 72 := ⟨1, rfl, Or.inr rfl, rfl⟩
set_option maxRecDepth 100000 in
theorem lt204_S_72 : xAt kt204_S 72 (.iload_n 2) 73 := ⟨1, rfl, Or.inr rfl, rfl⟩
set_option maxRecDepth 100000 in
theorem lt204_S_73 : xAt kt204_S 73 (.iload_n 3) 74 := ⟨1, rfl, Or.inr rfl, rfl⟩
set_option maxRecDepth 100000 in
theorem lt204_S_74 : xAt kt204_S 74 (.iload 4) 76 := ⟨2, rfl, Or.inr rfl, rfl⟩
set_option maxRecDepth 100000 in
theorem lt204_S_76 : xAt kt204_S 76 (.invokevirtual 91) 79 := ⟨3, rfl, Or.inr rfl, rfl⟩
set_option maxRecDepth 100000 in
theorem lt204_S_79 : xAt kt204_S 79 (.istore 7) 81 := ⟨2, rfl, Or.inr rfl, rfl⟩
set_option maxRecDepth 100000 in
theorem lt204_S_81 : xAt kt204_S 81 (.aload_n 0) 82 := ⟨1, rfl, Or.inr rfl, rfl⟩
set_option maxRecDepth 100000 in
theorem lt204_S_82 : xAt kt204_S 82 (.getfield 49) 85 := ⟨3, rfl, Or.inr rfl, rfl⟩
set_option maxRecDepth 100000 in
theorem lt204_S_85 : xAt kt204_S 85 (.iload 7) 87 := ⟨2, rfl, Or.inr rfl, rfl⟩
set_option maxRecDepth 100000 in
theorem lt204_S_87 : xAt kt204_S 87 (.aload_n 0) 88 := ⟨1, rfl, Or.inr rfl, rfl⟩
set_option maxRecDepth 100000 in
theorem lt204_S_88 : xAt kt204_S 88 (.getfield 21) 91 := ⟨3, rfl, Or.inr rfl, rfl⟩
set_option maxRecDepth 100000 in
theorem lt204_S_91 : xAt kt204_S 91 (.iload 5) 93 := ⟨2, rfl, Or.inr rfl, rfl⟩
set_option maxRecDepth 100000 in
theorem lt204_S_93 : xAt kt204_S 93 (.invokevirtual 95) 96 := ⟨3, rfl, Or.inr rfl, rfl⟩
set_option maxRecDepth 100000 in
theorem lt204_S_96 : xAt kt204_S 96 (.aload 6) 98 := ⟨2, rfl, Or.inr rfl, rfl⟩
set_option maxRecDepth 100000 in
theorem lt204_S_98 : xAt kt204_S 98 (.iload 7) 100 := ⟨2, rfl, Or.inr rfl, rfl⟩
set_option maxRecDepth 100000 in
theorem lt204_S_100 : xAt kt204_S 100 (.invokevirtual 99) 103 := ⟨3, rfl, Or.inr rfl, rfl⟩
set_option maxRecDepth 100000 in
theorem lt204_S_103 : xAt kt204_S 103 (.iload 7) 105 := ⟨2, rfl, Or.inr rfl, rfl⟩
/-- k_Face_asker to where it throws -/
def kt205_J : xK := (kT205.filter fun q => !(xend q.2.1)).map fun q => if [10].contains q.1 then (q.1, .return_, 1) else q
set_option maxRecDepth 100000 in
theorem lt205_J_0 : xAt kt205_J 0 (.iload_n 1) 1 := ⟨1, rfl, Or.inr rfl, rfl⟩
set_option maxRecDepth 100000 in
theorem lt205_J_1 : xAt kt205_J 1 (.ifCond .lt 9) 4 := ⟨3, rfl, Or.inr rfl, rfl⟩
set_option maxRecDepth 100000 in
theorem lt205_J_4 : xAt kt205_J 4 (.iload_n 1) 5 := ⟨1, rfl, Or.inr rfl, rfl⟩
set_option maxRecDepth 100000 in
theorem lt205_J_5 : xAt kt205_J 5 (.bipush 8) 7 := ⟨2, rfl, Or.inr rfl, rfl⟩
set_option maxRecDepth 100000 in
theorem lt205_J_7 : xAt kt205_J 7 (.if_icmp .lt 11) 10 := ⟨3, rfl, Or.inr rfl, rfl⟩
set_option maxRecDepth 100000 in
theorem lt205_J_10 : xAt kt205_J 10 (.return_) 11 := ⟨1, rfl, Or.inr rfl, rfl⟩
set_option maxRecDepth 100000 in
theorem lt205_J_18 : xAt kt205_J 18 (.aload_n 0) 19 := ⟨1, rfl, Or.inr rfl, rfl⟩
set_option maxRecDepth 100000 in
theorem lt205_J_19 : xAt kt205_J 19 (.getfield 17) 22 := ⟨3, rfl, Or.inr rfl, rfl⟩
set_option maxRecDepth 100000 in
theorem lt205_J_22 : xAt kt205_J 22 (.iload_n 1) 23 := ⟨1, rfl, Or.inr rfl, rfl⟩
set_option maxRecDepth 100000 in
theorem lt205_J_23 : xAt kt205_J 23 (.aaload) 24 := ⟨1, rfl, Or.inr rfl, rfl⟩
/-- k_Face_byteAt to where it throws -/
def kt206_J : xK := (kT206.filter fun q => !(xend q.2.1)).map fun q => if [12].contains q.1 then (q.1, .return_, 1) else q
set_option maxRecDepth 100000 in
theorem lt206_J_0 : xAt kt206_J 0 (.iload_n 1) 1 := ⟨1, rfl, Or.inr rfl, rfl⟩
set_option maxRecDepth 100000 in
theorem lt206_J_1 : xAt kt206_J 1 (.ifCond .lt 11) 4 := ⟨3, rfl, Or.inr rfl, rfl⟩
set_option maxRecDepth 100000 in
theorem lt206_J_4 : xAt kt206_J 4 (.iload_n 1) 5 := ⟨1, rfl, Or.inr rfl, rfl⟩
set_option maxRecDepth 100000 in
theorem lt206_J_5 : xAt kt206_J 5 (.aload_n 0) 6 := ⟨1, rfl, Or.inr rfl, rfl⟩
set_option maxRecDepth 100000 in
theorem lt206_J_6 : xAt kt206_J 6 (.getfield 242) 9 := ⟨3, rfl, Or.inr rfl, rfl⟩
set_option maxRecDepth 100000 in
theorem lt206_J_9 : xAt kt206_J 9 (.if_icmp .lt 11) 12 := ⟨3, rfl, Or.inr rfl, rfl⟩
set_option maxRecDepth 100000 in
theorem lt206_J_12 : xAt kt206_J 12 (.return_) 13 := ⟨1, rfl, Or.inr rfl, rfl⟩
set_option maxRecDepth 100000 in
theorem lt206_J_20 : xAt kt206_J 20 (.aload_n 0) 21 := ⟨1, rfl, Or.inr rfl, rfl⟩
set_option maxRecDepth 100000 in
theorem lt206_J_21 : xAt kt206_J 21 (.getfield 25) 24 := ⟨3, rfl, Or.inr rfl, rfl⟩
set_option maxRecDepth 100000 in
theorem lt206_J_24 : xAt kt206_J 24 (.iload_n 1) 25 := ⟨1, rfl, Or.inr rfl, rfl⟩
set_option maxRecDepth 100000 in
theorem lt206_J_25 : xAt kt206_J 25 (.baload) 26 := ⟨1, rfl, Or.inr rfl, rfl⟩
set_option maxRecDepth 100000 in
theorem lt206_J_26 : xAt kt206_J 26 (.sipush 255) 29 := ⟨3, rfl, Or.inr rfl, rfl⟩
set_option maxRecDepth 100000 in
theorem lt206_J_29 : xAt kt206_J 29 (.iand) 30 := ⟨1, rfl, Or.inr rfl, rfl⟩
/-- k_Face_client to where it throws -/
def kt207_J : xK := (kT207.filter fun q => !(xend q.2.1)).map fun q => if [82].contains q.1 then (q.1, .return_, 1) else q
set_option maxRecDepth 100000 in
theorem lt207_J_0 : xAt kt207_J 0 (.aload_n 0) 1 := ⟨1, rfl, Or.inr rfl, rfl⟩
set_option maxRecDepth 100000 in
theorem lt207_J_1 : xAt kt207_J 1 (.iload_n 1) 2 := ⟨1, rfl, Or.inr rfl, rfl⟩
set_option maxRecDepth 100000 in
theorem lt207_J_2 : xAt kt207_J 2 (.invokevirtual 76) 5 := ⟨3, rfl, Or.inr rfl, rfl⟩
set_option maxRecDepth 100000 in
theorem lt207_J_5 : xAt kt207_J 5 (.astore_n 3) 6 := ⟨1, rfl, Or.inr rfl, rfl⟩
set_option maxRecDepth 100000 in
theorem lt207_J_6 : xAt kt207_J 6 (.iload_n 2) 7 := ⟨1, rfl, Or.inr rfl, rfl⟩
set_option maxRecDepth 100000 in
theorem lt207_J_7 : xAt kt207_J 7 (.tableswitch 75 0 5 #[37, 50, 55, 60, 65, 70]) 44 := ⟨37, rfl, Or.inl rfl, rfl⟩
set_option maxRecDepth 100000 in
theorem lt207_J_44 : xAt kt207_J 44 (.aload_n 3) 45 := ⟨1, rfl, Or.inr rfl, rfl⟩
set_option maxRecDepth 100000 in
theorem lt207_J_45 : xAt kt207_J 45 (.getfield 84) 48 := ⟨3, rfl, Or.inr rfl, rfl⟩
set_option maxRecDepth 100000 in
theorem lt207_J_48 : xAt kt207_J 48 (.ifCond .eq 7) 51 := ⟨3, rfl, Or.inr rfl, rfl⟩
set_option maxRecDepth 100000 in
theorem lt207_J_51 : xAt kt207_J 51 (.iconst 1) 52 := ⟨1, rfl, Or.inr rfl, rfl⟩
set_option maxRecDepth 100000 in
theorem lt207_J_52 : xAt kt207_J 52 (.goto 4) 55 := ⟨3, rfl, Or.inr rfl, rfl⟩
set_option maxRecDepth 100000 in
theorem lt207_J_55 : xAt kt207_J 55 (.iconst 0) 56 := ⟨1, rfl, Or.inr rfl, rfl⟩
set_option maxRecDepth 100000 in
theorem lt207_J_57 : xAt kt207_J 57 (.aload_n 3) 58 := ⟨1, rfl, Or.inr rfl, rfl⟩
set_option maxRecDepth 100000 in
theorem lt207_J_58 : xAt kt207_J 58 (.getfield 275) 61 := ⟨3, rfl, Or.inr rfl, rfl⟩
set_option maxRecDepth 100000 in
theorem lt207_J_62 : xAt kt207_J 62 (.aload_n 3) 63 := ⟨1, rfl, Or.inr rfl, rfl⟩
set_option maxRecDepth 100000 in
theorem lt207_J_63 : xAt kt207_J 63 (.getfield 278) 66 := ⟨3, rfl, Or.inr rfl, rfl⟩
set_option maxRecDepth 100000 in
theorem lt207_J_67 : xAt kt207_J 67 (.aload_n 3) 68 := ⟨1, rfl, Or.inr rfl, rfl⟩
set_option maxRecDepth 100000 in
theorem lt207_J_68 : xAt kt207_J 68 (.getfield 281) 71 := ⟨3, rfl, Or.inr rfl, rfl⟩
set_option maxRecDepth 100000 in
theorem lt207_J_72 : xAt kt207_J 72 (.aload_n 3) 73 := ⟨1, rfl, Or.inr rfl, rfl⟩
set_option maxRecDepth 100000 in
theorem lt207_J_73 : xAt kt207_J 73 (.getfield 284) 76 := ⟨3, rfl, Or.inr rfl, rfl⟩
set_option maxRecDepth 100000 in
theorem lt207_J_77 : xAt kt207_J 77 (.aload_n 3) 78 := ⟨1, rfl, Or.inr rfl, rfl⟩
set_option maxRecDepth 100000 in
theorem lt207_J_78 : xAt kt207_J 78 (.getfield 287) 81 := ⟨3, rfl, Or.inr rfl, rfl⟩
set_option maxRecDepth 100000 in
theorem lt207_J_82 : xAt kt207_J 82 (.return_) 83 := ⟨1, rfl, Or.inr rfl, rfl⟩
/-- k_Face_delay to where it throws -/
def kt210_A : xK := (kT210.filter fun q => !(xend q.2.1)).map fun q => if [34].contains q.1 then (q.1, .return_, 1) else q
set_option maxRecDepth 100000 in
theorem lt210_A_0 : xAt kt210_A 0 (.iload_n 1) 1 := ⟨1, rfl, Or.inr rfl, rfl⟩
set_option maxRecDepth 100000 in
theorem lt210_A_1 : xAt kt210_A 1 (.invokestatic 114) 4 := ⟨3, rfl, Or.inr rfl, rfl⟩
set_option maxRecDepth 100000 in
theorem lt210_A_4 : xAt kt210_A 4 (.ifCond .eq 10) 7 := ⟨3, rfl, Or.inr rfl, rfl⟩
set_option maxRecDepth 100000 in
theorem lt210_A_7 : xAt kt210_A 7 (.iload_n 2) 8 := ⟨1, rfl, Or.inr rfl, rfl⟩
set_option maxRecDepth 100000 in
theorem lt210_A_8 : xAt kt210_A 8 (.invokestatic 114) 11 := ⟨3, rfl, Or.inr rfl, rfl⟩
set_option maxRecDepth 100000 in
theorem lt210_A_11 : xAt kt210_A 11 (.ifCond .ne 11) 14 := ⟨3, rfl, Or.inr rfl, rfl⟩
set_option maxRecDepth 100000 in
theorem lt210_A_22 : xAt kt210_A 22 (.iload_n 3) 23 := ⟨1, rfl, Or.inr rfl, rfl⟩
set_option maxRecDepth 100000 in
theorem lt210_A_23 : xAt kt210_A 23 (.iconst 1) 24 := ⟨1, rfl, Or.inr rfl, rfl⟩
set_option maxRecDepth 100000 in
theorem lt210_A_24 : xAt kt210_A 24 (.if_icmp .lt 10) 27 := ⟨3, rfl, Or.inr rfl, rfl⟩
set_option maxRecDepth 100000 in
theorem lt210_A_27 : xAt kt210_A 27 (.iload_n 3) 28 := ⟨1, rfl, Or.inr rfl, rfl⟩
set_option maxRecDepth 100000 in
theorem lt210_A_28 : xAt kt210_A 28 (.sipush 1000) 31 := ⟨3, rfl, Or.inr rfl, rfl⟩
set_option maxRecDepth 100000 in
theorem lt210_A_31 : xAt kt210_A 31 (.if_icmp .le 11) 34 := ⟨3, rfl, Or.inr rfl, rfl⟩
set_option maxRecDepth 100000 in
theorem lt210_A_34 : xAt kt210_A 34 (.return_) 35 := ⟨1, rfl, Or.inr rfl, rfl⟩
set_option maxRecDepth 100000 in
theorem lt210_A_42 : xAt kt210_A 42 (.iload_n 1) 43 := ⟨1, rfl, Or.inr rfl, rfl⟩
set_option maxRecDepth 100000 in
theorem lt210_A_43 : xAt kt210_A 43 (.bipush 16) 45 := ⟨2, rfl, Or.inr rfl, rfl⟩
set_option maxRecDepth 100000 in
theorem lt210_A_45 : xAt kt210_A 45 (.imul) 46 := ⟨1, rfl, Or.inr rfl, rfl⟩
set_option maxRecDepth 100000 in
theorem lt210_A_46 : xAt kt210_A 46 (.iload_n 2) 47 := ⟨1, rfl, Or.inr rfl, rfl⟩
set_option maxRecDepth 100000 in
theorem lt210_A_47 : xAt kt210_A 47 (.iadd) 48 := ⟨1, rfl, Or.inr rfl, rfl⟩
set_option maxRecDepth 100000 in
theorem lt210_A_48 : xAt kt210_A 48 (.istore 4) 50 := ⟨2, rfl, Or.inr rfl, rfl⟩
set_option maxRecDepth 100000 in
theorem lt210_A_50 : xAt kt210_A 50 (.aload_n 0) 51 := ⟨1, rfl, Or.inr rfl, rfl⟩
set_option maxRecDepth 100000 in
theorem lt210_A_51 : xAt kt210_A 51 (.getfield 42) 54 := ⟨3, rfl, Or.inr rfl, rfl⟩
set_option maxRecDepth 100000 in
theorem lt210_A_54 : xAt kt210_A 54 (.getfield 121) 57 := ⟨3, rfl, Or.inr rfl, rfl⟩
set_option maxRecDepth 100000 in
theorem lt210_A_57 : xAt kt210_A 57 (.iload 4) 59 := ⟨2, rfl, Or.inr rfl, rfl⟩
set_option maxRecDepth 100000 in
theorem lt210_A_59 : xAt kt210_A 59 (.iaload) 60 := ⟨1, rfl, Or.inr rfl, rfl⟩
set_option maxRecDepth 100000 in
theorem lt210_A_60 : xAt kt210_A 60 (.istore 5) 62 := ⟨2, rfl, Or.inr rfl, rfl⟩
set_option maxRecDepth 100000 in
theorem lt210_A_62 : xAt kt210_A 62 (.aload_n 0) 63 := ⟨1, rfl, Or.inr rfl, rfl⟩
set_option maxRecDepth 100000 in
theorem lt210_A_63 : xAt kt210_A 63 (.getfield 42) 66 := ⟨3, rfl, Or.inr rfl, rfl⟩
set_option maxRecDepth 100000 in
theorem lt210_A_66 : xAt kt210_A 66 (.getfield 121) 69 := ⟨3, rfl, Or.inr rfl, rfl⟩
set_option maxRecDepth 100000 in
theorem lt210_A_69 : xAt kt210_A 69 (.iload 4) 71 := ⟨2, rfl, Or.inr rfl, rfl⟩
set_option maxRecDepth 100000 in
theorem lt210_A_71 : xAt kt210_A 71 (.iload_n 3) 72 := ⟨1, rfl, Or.inr rfl, rfl⟩
set_option maxRecDepth 100000 in
theorem lt210_A_72 : xAt kt210_A 72 (.iastore) 73 := ⟨1, rfl, Or.inr rfl, rfl⟩
set_option maxRecDepth 100000 in
theorem lt210_A_73 : xAt kt210_A 73 (.iload 5) 75 := ⟨2, rfl, Or.inr rfl, rfl⟩
/-- k_Face_delay to where it throws -/
def kt210_J : xK := (kT210.filter fun q => !(xend q.2.1)).map fun q => if [14].contains q.1 then (q.1, .return_, 1) else q
set_option maxRecDepth 100000 in
theorem lt210_J_0 : xAt kt210_J 0 (.iload_n 1) 1 := ⟨1, rfl, Or.inr rfl, rfl⟩
set_option maxRecDepth 100000 in
theorem lt210_J_1 : xAt kt210_J 1 (.invokestatic 114) 4 := ⟨3, rfl, Or.inr rfl, rfl⟩
set_option maxRecDepth 100000 in
theorem lt210_J_4 : xAt kt210_J 4 (.ifCond .eq 10) 7 := ⟨3, rfl, Or.inr rfl, rfl⟩
set_option maxRecDepth 100000 in
theorem lt210_J_7 : xAt kt210_J 7 (.iload_n 2) 8 := ⟨1, rfl, Or.inr rfl, rfl⟩
set_option maxRecDepth 100000 in
theorem lt210_J_8 : xAt kt210_J 8 (.invokestatic 114) 11 := ⟨3, rfl, Or.inr rfl, rfl⟩
set_option maxRecDepth 100000 in
theorem lt210_J_11 : xAt kt210_J 11 (.ifCond .ne 11) 14 := ⟨3, rfl, Or.inr rfl, rfl⟩
set_option maxRecDepth 100000 in
theorem lt210_J_14 : xAt kt210_J 14 (.return_) 15 := ⟨1, rfl, Or.inr rfl, rfl⟩
set_option maxRecDepth 100000 in
theorem lt210_J_22 : xAt kt210_J 22 (.iload_n 3) 23 := ⟨1, rfl, Or.inr rfl, rfl⟩
set_option maxRecDepth 100000 in
theorem lt210_J_23 : xAt kt210_J 23 (.iconst 1) 24 := ⟨1, rfl, Or.inr rfl, rfl⟩
set_option maxRecDepth 100000 in
theorem lt210_J_24 : xAt kt210_J 24 (.if_icmp .lt 10) 27 := ⟨3, rfl, Or.inr rfl, rfl⟩
set_option maxRecDepth 100000 in
theorem lt210_J_27 : xAt kt210_J 27 (.iload_n 3) 28 := ⟨1, rfl, Or.inr rfl, rfl⟩
set_option maxRecDepth 100000 in
theorem lt210_J_28 : xAt kt210_J 28 (.sipush 1000) 31 := ⟨3, rfl, Or.inr rfl, rfl⟩
set_option maxRecDepth 100000 in
theorem lt210_J_31 : xAt kt210_J 31 (.if_icmp .le 11) 34 := ⟨3, rfl, Or.inr rfl, rfl⟩
set_option maxRecDepth 100000 in
theorem lt210_J_42 : xAt kt210_J 42 (.iload_n 1) 43 := ⟨1, rfl, Or.inr rfl, rfl⟩
set_option maxRecDepth 100000 in
theorem lt210_J_43 : xAt kt210_J 43 (.bipush 16) 45 := ⟨2, rfl, Or.inr rfl, rfl⟩
set_option maxRecDepth 100000 in
theorem lt210_J_45 : xAt kt210_J 45 (.imul) 46 := ⟨1, rfl, Or.inr rfl, rfl⟩
set_option maxRecDepth 100000 in
theorem lt210_J_46 : xAt kt210_J 46 (.iload_n 2) 47 := ⟨1, rfl, Or.inr rfl, rfl⟩
set_option maxRecDepth 100000 in
theorem lt210_J_47 : xAt kt210_J 47 (.iadd) 48 := ⟨1, rfl, Or.inr rfl, rfl⟩
set_option maxRecDepth 100000 in
theorem lt210_J_48 : xAt kt210_J 48 (.istore 4) 50 := ⟨2, rfl, Or.inr rfl, rfl⟩
set_option maxRecDepth 100000 in
theorem lt210_J_50 : xAt kt210_J 50 (.aload_n 0) 51 := ⟨1, rfl, Or.inr rfl, rfl⟩
set_option maxRecDepth 100000 in
theorem lt210_J_51 : xAt kt210_J 51 (.getfield 42) 54 := ⟨3, rfl, Or.inr rfl, rfl⟩
set_option maxRecDepth 100000 in
theorem lt210_J_54 : xAt kt210_J 54 (.getfield 121) 57 := ⟨3, rfl, Or.inr rfl, rfl⟩
set_option maxRecDepth 100000 in
theorem lt210_J_57 : xAt kt210_J 57 (.iload 4) 59 := ⟨2, rfl, Or.inr rfl, rfl⟩
set_option maxRecDepth 100000 in
theorem lt210_J_59 : xAt kt210_J 59 (.iaload) 60 := ⟨1, rfl, Or.inr rfl, rfl⟩
set_option maxRecDepth 100000 in
theorem lt210_J_60 : xAt kt210_J 60 (.istore 5) 62 := ⟨2, rfl, Or.inr rfl, rfl⟩
set_option maxRecDepth 100000 in
theorem lt210_J_62 : xAt kt210_J 62 (.aload_n 0) 63 := ⟨1, rfl, Or.inr rfl, rfl⟩
set_option maxRecDepth 100000 in
theorem lt210_J_63 : xAt kt210_J 63 (.getfield 42) 66 := ⟨3, rfl, Or.inr rfl, rfl⟩
set_option maxRecDepth 100000 in
theorem lt210_J_66 : xAt kt210_J 66 (.getfield 121) 69 := ⟨3, rfl, Or.inr rfl, rfl⟩
set_option maxRecDepth 100000 in
theorem lt210_J_69 : xAt kt210_J 69 (.iload 4) 71 := ⟨2, rfl, Or.inr rfl, rfl⟩
set_option maxRecDepth 100000 in
theorem lt210_J_71 : xAt kt210_J 71 (.iload_n 3) 72 := ⟨1, rfl, Or.inr rfl, rfl⟩
set_option maxRecDepth 100000 in
theorem lt210_J_72 : xAt kt210_J 72 (.iastore) 73 := ⟨1, rfl, Or.inr rfl, rfl⟩
set_option maxRecDepth 100000 in
theorem lt210_J_73 : xAt kt210_J 73 (.iload 5) 75 := ⟨2, rfl, Or.inr rfl, rfl⟩
/-- k_Face_end to where it throws -/
def kt211_A : xK := (kT211.filter fun q => !(xend q.2.1)).map fun q => if [10].contains q.1 then (q.1, .return_, 1) else q
set_option maxRecDepth 100000 in
theorem lt211_A_0 : xAt kt211_A 0 (.iload_n 1) 1 := ⟨1, rfl, Or.inr rfl, rfl⟩
set_option maxRecDepth 100000 in
theorem lt211_A_1 : xAt kt211_A 1 (.ifCond .lt 9) 4 := ⟨3, rfl, Or.inr rfl, rfl⟩
set_option maxRecDepth 100000 in
theorem lt211_A_4 : xAt kt211_A 4 (.iload_n 1) 5 := ⟨1, rfl, Or.inr rfl, rfl⟩
set_option maxRecDepth 100000 in
theorem lt211_A_5 : xAt kt211_A 5 (.bipush 20) 7 := ⟨2, rfl, Or.inr rfl, rfl⟩
set_option maxRecDepth 100000 in
theorem lt211_A_7 : xAt kt211_A 7 (.if_icmp .le 11) 10 := ⟨3, rfl, Or.inr rfl, rfl⟩
set_option maxRecDepth 100000 in
theorem lt211_A_10 : xAt kt211_A 10 (.return_) 11 := ⟨1, rfl, Or.inr rfl, rfl⟩
set_option maxRecDepth 100000 in
theorem lt211_A_18 : xAt kt211_A 18 (.aload_n 0) 19 := ⟨1, rfl, Or.inr rfl, rfl⟩
set_option maxRecDepth 100000 in
theorem lt211_A_19 : xAt kt211_A 19 (.getfield 63) 22 := ⟨3, rfl, Or.inr rfl, rfl⟩
set_option maxRecDepth 100000 in
theorem lt211_A_22 : xAt kt211_A 22 (.bipush 20) 24 := ⟨2, rfl, Or.inr rfl, rfl⟩
set_option maxRecDepth 100000 in
theorem lt211_A_24 : xAt kt211_A 24 (.if_icmp .ge 11) 27 := ⟨3, rfl, Or.inr rfl, rfl⟩
set_option maxRecDepth 100000 in
theorem lt211_A_35 : xAt kt211_A 35 (.aload_n 0) 36 := ⟨1, rfl, Or.inr rfl, rfl⟩
set_option maxRecDepth 100000 in
theorem lt211_A_36 : xAt kt211_A 36 (.dup) 37 := ⟨1, rfl, Or.inr rfl, rfl⟩
set_option maxRecDepth 100000 in
theorem lt211_A_37 : xAt kt211_A 37 (.getfield 63) 40 := ⟨3, rfl, Or.inr rfl, rfl⟩
set_option maxRecDepth 100000 in
theorem lt211_A_40 : xAt kt211_A 40 (.bipush 20) 42 := ⟨2, rfl, Or.inr rfl, rfl⟩
set_option maxRecDepth 100000 in
theorem lt211_A_42 : xAt kt211_A 42 (.iload_n 1) 43 := ⟨1, rfl, Or.inr rfl, rfl⟩
set_option maxRecDepth 100000 in
theorem lt211_A_43 : xAt kt211_A 43 (.isub) 44 := ⟨1, rfl, Or.inr rfl, rfl⟩
set_option maxRecDepth 100000 in
theorem lt211_A_44 : xAt kt211_A 44 (.isub) 45 := ⟨1, rfl, Or.inr rfl, rfl⟩
set_option maxRecDepth 100000 in
theorem lt211_A_45 : xAt kt211_A 45 (.putfield 63) 48 := ⟨3, rfl, Or.inr rfl, rfl⟩
set_option maxRecDepth 100000 in
theorem lt211_A_48 : xAt kt211_A 48 (.aload_n 0) 49 := ⟨1, rfl, Or.inr rfl, rfl⟩
set_option maxRecDepth 100000 in
theorem lt211_A_49 : xAt kt211_A 49 (.getfield 63) 52 := ⟨3, rfl, Or.inr rfl, rfl⟩
/-- k_Face_end to where it throws -/
def kt211_S : xK := (kT211.filter fun q => !(xend q.2.1)).map fun q => if [27].contains q.1 then (q.1, .return_, 1) else q
set_option maxRecDepth 100000 in
theorem lt211_S_0 : xAt kt211_S 0 (.iload_n 1) 1 := ⟨1, rfl, Or.inr rfl, rfl⟩
set_option maxRecDepth 100000 in
theorem lt211_S_1 : xAt kt211_S 1 (.ifCond .lt 9) 4 := ⟨3, rfl, Or.inr rfl, rfl⟩
set_option maxRecDepth 100000 in
theorem lt211_S_4 : xAt kt211_S 4 (.iload_n 1) 5 := ⟨1, rfl, Or.inr rfl, rfl⟩
set_option maxRecDepth 100000 in
theorem lt211_S_5 : xAt kt211_S 5 (.bipush 20) 7 := ⟨2, rfl, Or.inr rfl, rfl⟩
set_option maxRecDepth 100000 in
theorem lt211_S_7 : xAt kt211_S 7 (.if_icmp .le 11) 10 := ⟨3, rfl, Or.inr rfl, rfl⟩
set_option maxRecDepth 100000 in
theorem lt211_S_18 : xAt kt211_S 18 (.aload_n 0) 19 := ⟨1, rfl, Or.inr rfl, rfl⟩
set_option maxRecDepth 100000 in
theorem lt211_S_19 : xAt kt211_S 19 (.getfield 63) 22 := ⟨3, rfl, Or.inr rfl, rfl⟩
set_option maxRecDepth 100000 in
theorem lt211_S_22 : xAt kt211_S 22 (.bipush 20) 24 := ⟨2, rfl, Or.inr rfl, rfl⟩
set_option maxRecDepth 100000 in
theorem lt211_S_24 : xAt kt211_S 24 (.if_icmp .ge 11) 27 := ⟨3, rfl, Or.inr rfl, rfl⟩
set_option maxRecDepth 100000 in
theorem lt211_S_27 : xAt kt211_S 27 (.return_) 28 := ⟨1, rfl, Or.inr rfl, rfl⟩
set_option maxRecDepth 100000 in
theorem lt211_S_35 : xAt kt211_S 35 (.aload_n 0) 36 := ⟨1, rfl, Or.inr rfl, rfl⟩
set_option maxRecDepth 100000 in
theorem lt211_S_36 : xAt kt211_S 36 (.dup) 37 := ⟨1, rfl, Or.inr rfl, rfl⟩
set_option maxRecDepth 100000 in
theorem lt211_S_37 : xAt kt211_S 37 (.getfield 63) 40 := ⟨3, rfl, Or.inr rfl, rfl⟩
set_option maxRecDepth 100000 in
theorem lt211_S_40 : xAt kt211_S 40 (.bipush 20) 42 := ⟨2, rfl, Or.inr rfl, rfl⟩
set_option maxRecDepth 100000 in
theorem lt211_S_42 : xAt kt211_S 42 (.iload_n 1) 43 := ⟨1, rfl, Or.inr rfl, rfl⟩
set_option maxRecDepth 100000 in
theorem lt211_S_43 : xAt kt211_S 43 (.isub) 44 := ⟨1, rfl, Or.inr rfl, rfl⟩
set_option maxRecDepth 100000 in
theorem lt211_S_44 : xAt kt211_S 44 (.isub) 45 := ⟨1, rfl, Or.inr rfl, rfl⟩
set_option maxRecDepth 100000 in
theorem lt211_S_45 : xAt kt211_S 45 (.putfield 63) 48 := ⟨3, rfl, Or.inr rfl, rfl⟩
set_option maxRecDepth 100000 in
theorem lt211_S_48 : xAt kt211_S 48 (.aload_n 0) 49 := ⟨1, rfl, Or.inr rfl, rfl⟩
set_option maxRecDepth 100000 in
theorem lt211_S_49 : xAt kt211_S 49 (.getfield 63) 52 := ⟨3, rfl, Or.inr rfl, rfl⟩
/-- k_Face_entry to where it throws -/
def kt212_J : xK := (kT212.filter fun q => !(xend q.2.1)).map fun q => if [24, 67].contains q.1 then (q.1, .return_, 1) else q
set_option maxRecDepth 100000 in
theorem lt212_J_0 : xAt kt212_J 0 (.aload_n 0) 1 := ⟨1, rfl, Or.inr rfl, rfl⟩
set_option maxRecDepth 100000 in
theorem lt212_J_1 : xAt kt212_J 1 (.iload_n 1) 2 := ⟨1, rfl, Or.inr rfl, rfl⟩
set_option maxRecDepth 100000 in
theorem lt212_J_2 : xAt kt212_J 2 (.invokevirtual 155) 5 := ⟨3, rfl, Or.inr rfl, rfl⟩
set_option maxRecDepth 100000 in
theorem lt212_J_5 : xAt kt212_J 5 (.astore 4) 7 := ⟨2, rfl, Or.inr rfl, rfl⟩
set_option maxRecDepth 100000 in
theorem lt212_J_7 : xAt kt212_J 7 (.aload 4) 9 := ⟨2, rfl, Or.inr rfl, rfl⟩
set_option maxRecDepth 100000 in
theorem lt212_J_9 : xAt kt212_J 9 (.getfield 165) 12 := ⟨3, rfl, Or.inr rfl, rfl⟩
set_option maxRecDepth 100000 in
theorem lt212_J_12 : xAt kt212_J 12 (.ifCond .eq 12) 15 := ⟨3, rfl, Or.inr rfl, rfl⟩
set_option maxRecDepth 100000 in
theorem lt212_J_15 : xAt kt212_J 15 (.iload_n 3) 16 := ⟨1, rfl, Or.inr rfl, rfl⟩
set_option maxRecDepth 100000 in
theorem lt212_J_16 : xAt kt212_J 16 (.ifCond .lt 8) 19 := ⟨3, rfl, Or.inr rfl, rfl⟩
set_option maxRecDepth 100000 in
theorem lt212_J_19 : xAt kt212_J 19 (.iload_n 3) 20 := ⟨1, rfl, Or.inr rfl, rfl⟩
set_option maxRecDepth 100000 in
theorem lt212_J_20 : xAt kt212_J 20 (.iconst 2) 21 := ⟨1, rfl, Or.inr rfl, rfl⟩
set_option maxRecDepth 100000 in
theorem lt212_J_21 : xAt kt212_J 21 (.if_icmp .le 11) 24 := ⟨3, rfl, Or.inr rfl, rfl⟩
set_option maxRecDepth 100000 in
theorem lt212_J_24 : xAt kt212_J 24 (.return_) 25 := ⟨1, rfl, Or.inr rfl, rfl⟩
set_option maxRecDepth 100000 in
theorem lt212_J_32 : xAt kt212_J 32 (.aload 4) 34 := ⟨2, rfl, Or.inr rfl, rfl⟩
set_option maxRecDepth 100000 in
theorem lt212_J_34 : xAt kt212_J 34 (.getfield 184) 37 := ⟨3, rfl, Or.inr rfl, rfl⟩
set_option maxRecDepth 100000 in
theorem lt212_J_37 : xAt kt212_J 37 (.astore 5) 39 := ⟨2, rfl, Or.inr rfl, rfl⟩
set_option maxRecDepth 100000 in
theorem lt212_J_39 : xAt kt212_J 39 (.iload_n 2) 40 := ⟨1, rfl, Or.inr rfl, rfl⟩
set_option maxRecDepth 100000 in
theorem lt212_J_40 : xAt kt212_J 40 (.aload 5) 42 := ⟨2, rfl, Or.inr rfl, rfl⟩
set_option maxRecDepth 100000 in
theorem lt212_J_42 : xAt kt212_J 42 (.getfield 209) 45 := ⟨3, rfl, Or.inr rfl, rfl⟩
set_option maxRecDepth 100000 in
theorem lt212_J_45 : xAt kt212_J 45 (.if_icmp .ne 13) 48 := ⟨3, rfl, Or.inr rfl, rfl⟩
set_option maxRecDepth 100000 in
theorem lt212_J_48 : xAt kt212_J 48 (.iload_n 3) 49 := ⟨1, rfl, Or.inr rfl, rfl⟩
set_option maxRecDepth 100000 in
theorem lt212_J_49 : xAt kt212_J 49 (.ifCond .ne 9) 52 := ⟨3, rfl, Or.inr rfl, rfl⟩
set_option maxRecDepth 100000 in
theorem lt212_J_52 : xAt kt212_J 52 (.aload 5) 54 := ⟨2, rfl, Or.inr rfl, rfl⟩
set_option maxRecDepth 100000 in
theorem lt212_J_54 : xAt kt212_J 54 (.getfield 212) 57 := ⟨3, rfl, Or.inr rfl, rfl⟩
set_option maxRecDepth 100000 in
theorem lt212_J_58 : xAt kt212_J 58 (.aload 5) 60 := ⟨2, rfl, Or.inr rfl, rfl⟩
set_option maxRecDepth 100000 in
theorem lt212_J_60 : xAt kt212_J 60 (.iload_n 2) 61 := ⟨1, rfl, Or.inr rfl, rfl⟩
set_option maxRecDepth 100000 in
theorem lt212_J_61 : xAt kt212_J 61 (.invokevirtual 215) 64 := ⟨3, rfl, Or.inr rfl, rfl⟩
set_option maxRecDepth 100000 in
theorem lt212_J_64 : xAt kt212_J 64 (.ifCond .ne 11) 67 := ⟨3, rfl, Or.inr rfl, rfl⟩
set_option maxRecDepth 100000 in
theorem lt212_J_67 : xAt kt212_J 67 (.return_) 68 := ⟨1, rfl, Or.inr rfl, rfl⟩
set_option maxRecDepth 100000 in
theorem lt212_J_75 : xAt kt212_J 75 (.aload 5) 77 := ⟨2, rfl, Or.inr rfl, rfl⟩
set_option maxRecDepth 100000 in
theorem lt212_J_77 : xAt kt212_J 77 (.getfield 218) 80 := ⟨3, rfl, Or.inr rfl, rfl⟩
set_option maxRecDepth 100000 in
theorem lt212_J_80 : xAt kt212_J 80 (.aload 5) 82 := ⟨2, rfl, Or.inr rfl, rfl⟩
set_option maxRecDepth 100000 in
theorem lt212_J_82 : xAt kt212_J 82 (.iload_n 2) 83 := ⟨1, rfl, Or.inr rfl, rfl⟩
set_option maxRecDepth 100000 in
theorem lt212_J_83 : xAt kt212_J 83 (.invokevirtual 221) 86 := ⟨3, rfl, Or.inr rfl, rfl⟩
set_option maxRecDepth 100000 in
theorem lt212_J_86 : xAt kt212_J 86 (.iload_n 3) 87 := ⟨1, rfl, Or.inr rfl, rfl⟩
set_option maxRecDepth 100000 in
theorem lt212_J_87 : xAt kt212_J 87 (.iadd) 88 := ⟨1, rfl, Or.inr rfl, rfl⟩
set_option maxRecDepth 100000 in
theorem lt212_J_88 : xAt kt212_J 88 (.iaload) 89 := ⟨1, rfl, Or.inr rfl, rfl⟩
/-- k_Face_feed to where it throws -/
def kt213_S : xK := (kT213.filter fun q => !(xend q.2.1)).map fun q => if [13].contains q.1 then (q.1, .return_, 1) else q
set_option maxRecDepth 100000 in
theorem lt213_S_0 : xAt kt213_S 0 (.aload_n 0) 1 := ⟨1, rfl, Or.inr rfl, rfl⟩
set_option maxRecDepth 100000 in
theorem lt213_S_1 : xAt kt213_S 1 (.getfield 63) 4 := ⟨3, rfl, Or.inr rfl, rfl⟩
set_option maxRecDepth 100000 in
theorem lt213_S_4 : xAt kt213_S 4 (.bipush 20) 6 := ⟨2, rfl, Or.inr rfl, rfl⟩
set_option maxRecDepth 100000 in
theorem lt213_S_6 : xAt kt213_S 6 (.iadd) 7 := ⟨1, rfl, Or.inr rfl, rfl⟩
set_option maxRecDepth 100000 in
theorem lt213_S_7 : xAt kt213_S 7 (.sipush 400) 10 := ⟨3, rfl, Or.inr rfl, rfl⟩
set_option maxRecDepth 100000 in
theorem lt213_S_10 : xAt kt213_S 10 (.if_icmp .le 11) 13 := ⟨3, rfl, Or.inr rfl, rfl⟩
set_option maxRecDepth 100000 in
theorem lt213_S_13 : xAt kt213_S 13 (.return_) 14 := ⟨1, rfl, Or.inr rfl, rfl⟩
set_option maxRecDepth 100000 in
theorem lt213_S_21 : xAt kt213_S 21 (.aload_n 0) 22 := ⟨1, rfl, Or.inr rfl, rfl⟩
set_option maxRecDepth 100000 in
theorem lt213_S_22 : xAt kt213_S 22 (.iload_n 1) 23 := ⟨1, rfl, Or.inr rfl, rfl⟩
set_option maxRecDepth 100000 in
theorem lt213_S_23 : xAt kt213_S 23 (.invokevirtual 70) 26 := ⟨3, rfl, Or.inr rfl, rfl⟩
set_option maxRecDepth 100000 in
theorem lt213_S_26 : xAt kt213_S 26 (.aload_n 0) 27 := ⟨1, rfl, Or.inr rfl, rfl⟩
set_option maxRecDepth 100000 in
theorem lt213_S_27 : xAt kt213_S 27 (.iload_n 2) 28 := ⟨1, rfl, Or.inr rfl, rfl⟩
set_option maxRecDepth 100000 in
theorem lt213_S_28 : xAt kt213_S 28 (.invokevirtual 70) 31 := ⟨3, rfl, Or.inr rfl, rfl⟩
set_option maxRecDepth 100000 in
theorem lt213_S_31 : xAt kt213_S 31 (.aload_n 0) 32 := ⟨1, rfl, Or.inr rfl, rfl⟩
set_option maxRecDepth 100000 in
theorem lt213_S_32 : xAt kt213_S 32 (.iload_n 3) 33 := ⟨1, rfl, Or.inr rfl, rfl⟩
set_option maxRecDepth 100000 in
theorem lt213_S_33 : xAt kt213_S 33 (.invokevirtual 70) 36 := ⟨3, rfl, Or.inr rfl, rfl⟩
set_option maxRecDepth 100000 in
theorem lt213_S_36 : xAt kt213_S 36 (.aload_n 0) 37 := ⟨1, rfl, Or.inr rfl, rfl⟩
set_option maxRecDepth 100000 in
theorem lt213_S_37 : xAt kt213_S 37 (.iload 4) 39 := ⟨2, rfl, Or.inr rfl, rfl⟩
set_option maxRecDepth 100000 in
theorem lt213_S_39 : xAt kt213_S 39 (.invokevirtual 70) 42 := ⟨3, rfl, Or.inr rfl, rfl⟩
set_option maxRecDepth 100000 in
theorem lt213_S_42 : xAt kt213_S 42 (.aload_n 0) 43 := ⟨1, rfl, Or.inr rfl, rfl⟩
set_option maxRecDepth 100000 in
theorem lt213_S_43 : xAt kt213_S 43 (.iload 5) 45 := ⟨2, rfl, Or.inr rfl, rfl⟩
set_option maxRecDepth 100000 in
theorem lt213_S_45 : xAt kt213_S 45 (.invokevirtual 70) 48 := ⟨3, rfl, Or.inr rfl, rfl⟩
set_option maxRecDepth 100000 in
theorem lt213_S_48 : xAt kt213_S 48 (.aload_n 0) 49 := ⟨1, rfl, Or.inr rfl, rfl⟩
set_option maxRecDepth 100000 in
theorem lt213_S_49 : xAt kt213_S 49 (.getfield 63) 52 := ⟨3, rfl, Or.inr rfl, rfl⟩
/-- k_Face_file to where it throws -/
def kt214_J : xK := (kT214.filter fun q => !(xend q.2.1)).map fun q => if [26].contains q.1 then (q.1, .return_, 1) else q
set_option maxRecDepth 100000 in
theorem lt214_J_0 : xAt kt214_J 0 (.aload_n 0) 1 := ⟨1, rfl, Or.inr rfl, rfl⟩
set_option maxRecDepth 100000 in
theorem lt214_J_1 : xAt kt214_J 1 (.iload_n 1) 2 := ⟨1, rfl, Or.inr rfl, rfl⟩
set_option maxRecDepth 100000 in
theorem lt214_J_2 : xAt kt214_J 2 (.invokevirtual 155) 5 := ⟨3, rfl, Or.inr rfl, rfl⟩
set_option maxRecDepth 100000 in
theorem lt214_J_5 : xAt kt214_J 5 (.astore 4) 7 := ⟨2, rfl, Or.inr rfl, rfl⟩
set_option maxRecDepth 100000 in
theorem lt214_J_7 : xAt kt214_J 7 (.iload_n 2) 8 := ⟨1, rfl, Or.inr rfl, rfl⟩
set_option maxRecDepth 100000 in
theorem lt214_J_8 : xAt kt214_J 8 (.ifCond .lt 18) 11 := ⟨3, rfl, Or.inr rfl, rfl⟩
set_option maxRecDepth 100000 in
theorem lt214_J_11 : xAt kt214_J 11 (.iload_n 2) 12 := ⟨1, rfl, Or.inr rfl, rfl⟩
set_option maxRecDepth 100000 in
theorem lt214_J_12 : xAt kt214_J 12 (.bipush 16) 14 := ⟨2, rfl, Or.inr rfl, rfl⟩
set_option maxRecDepth 100000 in
theorem lt214_J_14 : xAt kt214_J 14 (.if_icmp .ge 12) 17 := ⟨3, rfl, Or.inr rfl, rfl⟩
set_option maxRecDepth 100000 in
theorem lt214_J_17 : xAt kt214_J 17 (.iload_n 3) 18 := ⟨1, rfl, Or.inr rfl, rfl⟩
set_option maxRecDepth 100000 in
theorem lt214_J_18 : xAt kt214_J 18 (.ifCond .lt 8) 21 := ⟨3, rfl, Or.inr rfl, rfl⟩
set_option maxRecDepth 100000 in
theorem lt214_J_21 : xAt kt214_J 21 (.iload_n 3) 22 := ⟨1, rfl, Or.inr rfl, rfl⟩
set_option maxRecDepth 100000 in
theorem lt214_J_22 : xAt kt214_J 22 (.iconst 4) 23 := ⟨1, rfl, Or.inr rfl, rfl⟩
set_option maxRecDepth 100000 in
theorem lt214_J_23 : xAt kt214_J 23 (.if_icmp .le 11) 26 := ⟨3, rfl, Or.inr rfl, rfl⟩
set_option maxRecDepth 100000 in
theorem lt214_J_26 : xAt kt214_J 26 (.return_) 27 := ⟨1, rfl, Or.inr rfl, rfl⟩
set_option maxRecDepth 100000 in
theorem lt214_J_34 : xAt kt214_J 34 (.aload 4) 36 := ⟨2, rfl, Or.inr rfl, rfl⟩
set_option maxRecDepth 100000 in
theorem lt214_J_36 : xAt kt214_J 36 (.getfield 224) 39 := ⟨3, rfl, Or.inr rfl, rfl⟩
set_option maxRecDepth 100000 in
theorem lt214_J_39 : xAt kt214_J 39 (.iload_n 2) 40 := ⟨1, rfl, Or.inr rfl, rfl⟩
set_option maxRecDepth 100000 in
theorem lt214_J_40 : xAt kt214_J 40 (.iload_n 3) 41 := ⟨1, rfl, Or.inr rfl, rfl⟩
set_option maxRecDepth 100000 in
theorem lt214_J_41 : xAt kt214_J 41 (.invokevirtual 228) 44 := ⟨3, rfl, Or.inr rfl, rfl⟩
/-- k_Face_history to where it throws -/
def kt218_J : xK := (kT218.filter fun q => !(xend q.2.1)).map fun q => if [24].contains q.1 then (q.1, .return_, 1) else q
set_option maxRecDepth 100000 in
theorem lt218_J_0 : xAt kt218_J 0 (.iload_n 1) 1 := ⟨1, rfl, Or.inr rfl, rfl⟩
set_option maxRecDepth 100000 in
theorem lt218_J_1 : xAt kt218_J 1 (.ifCond .lt 23) 4 := ⟨3, rfl, Or.inr rfl, rfl⟩
set_option maxRecDepth 100000 in
theorem lt218_J_4 : xAt kt218_J 4 (.iload_n 1) 5 := ⟨1, rfl, Or.inr rfl, rfl⟩
set_option maxRecDepth 100000 in
theorem lt218_J_5 : xAt kt218_J 5 (.aload_n 0) 6 := ⟨1, rfl, Or.inr rfl, rfl⟩
set_option maxRecDepth 100000 in
theorem lt218_J_6 : xAt kt218_J 6 (.getfield 49) 9 := ⟨3, rfl, Or.inr rfl, rfl⟩
set_option maxRecDepth 100000 in
theorem lt218_J_9 : xAt kt218_J 9 (.getfield 88) 12 := ⟨3, rfl, Or.inr rfl, rfl⟩
set_option maxRecDepth 100000 in
theorem lt218_J_12 : xAt kt218_J 12 (.if_icmp .ge 12) 15 := ⟨3, rfl, Or.inr rfl, rfl⟩
set_option maxRecDepth 100000 in
theorem lt218_J_15 : xAt kt218_J 15 (.iload_n 2) 16 := ⟨1, rfl, Or.inr rfl, rfl⟩
set_option maxRecDepth 100000 in
theorem lt218_J_16 : xAt kt218_J 16 (.ifCond .lt 8) 19 := ⟨3, rfl, Or.inr rfl, rfl⟩
set_option maxRecDepth 100000 in
theorem lt218_J_19 : xAt kt218_J 19 (.iload_n 2) 20 := ⟨1, rfl, Or.inr rfl, rfl⟩
set_option maxRecDepth 100000 in
theorem lt218_J_20 : xAt kt218_J 20 (.iconst 5) 21 := ⟨1, rfl, Or.inr rfl, rfl⟩
set_option maxRecDepth 100000 in
theorem lt218_J_21 : xAt kt218_J 21 (.if_icmp .le 11) 24 := ⟨3, rfl, Or.inr rfl, rfl⟩
set_option maxRecDepth 100000 in
theorem lt218_J_24 : xAt kt218_J 24 (.return_) 25 := ⟨1, rfl, Or.inr rfl, rfl⟩
set_option maxRecDepth 100000 in
theorem lt218_J_32 : xAt kt218_J 32 (.aload_n 0) 33 := ⟨1, rfl, Or.inr rfl, rfl⟩
set_option maxRecDepth 100000 in
theorem lt218_J_33 : xAt kt218_J 33 (.getfield 49) 36 := ⟨3, rfl, Or.inr rfl, rfl⟩
set_option maxRecDepth 100000 in
theorem lt218_J_36 : xAt kt218_J 36 (.iload_n 1) 37 := ⟨1, rfl, Or.inr rfl, rfl⟩
set_option maxRecDepth 100000 in
theorem lt218_J_37 : xAt kt218_J 37 (.iload_n 2) 38 := ⟨1, rfl, Or.inr rfl, rfl⟩
set_option maxRecDepth 100000 in
theorem lt218_J_38 : xAt kt218_J 38 (.invokevirtual 302) 41 := ⟨3, rfl, Or.inr rfl, rfl⟩
/-- k_Face_host to where it throws -/
def kt219_J : xK := (kT219.filter fun q => !(xend q.2.1)).map fun q => if [10].contains q.1 then (q.1, .return_, 1) else q
set_option maxRecDepth 100000 in
theorem lt219_J_0 : xAt kt219_J 0 (.iload_n 1) 1 := ⟨1, rfl, Or.inr rfl, rfl⟩
set_option maxRecDepth 100000 in
theorem lt219_J_1 : xAt kt219_J 1 (.ifCond .lt 9) 4 := ⟨3, rfl, Or.inr rfl, rfl⟩
set_option maxRecDepth 100000 in
theorem lt219_J_4 : xAt kt219_J 4 (.iload_n 1) 5 := ⟨1, rfl, Or.inr rfl, rfl⟩
set_option maxRecDepth 100000 in
theorem lt219_J_5 : xAt kt219_J 5 (.bipush 7) 7 := ⟨2, rfl, Or.inr rfl, rfl⟩
set_option maxRecDepth 100000 in
theorem lt219_J_7 : xAt kt219_J 7 (.if_icmp .lt 11) 10 := ⟨3, rfl, Or.inr rfl, rfl⟩
set_option maxRecDepth 100000 in
theorem lt219_J_10 : xAt kt219_J 10 (.return_) 11 := ⟨1, rfl, Or.inr rfl, rfl⟩
set_option maxRecDepth 100000 in
theorem lt219_J_18 : xAt kt219_J 18 (.aload_n 0) 19 := ⟨1, rfl, Or.inr rfl, rfl⟩
set_option maxRecDepth 100000 in
theorem lt219_J_19 : xAt kt219_J 19 (.getfield 11) 22 := ⟨3, rfl, Or.inr rfl, rfl⟩
set_option maxRecDepth 100000 in
theorem lt219_J_22 : xAt kt219_J 22 (.iload_n 1) 23 := ⟨1, rfl, Or.inr rfl, rfl⟩
set_option maxRecDepth 100000 in
theorem lt219_J_23 : xAt kt219_J 23 (.aaload) 24 := ⟨1, rfl, Or.inr rfl, rfl⟩
/-- k_Face_latency to where it throws -/
def kt224_A : xK := (kT224.filter fun q => !(xend q.2.1)).map fun q => if [17].contains q.1 then (q.1, .return_, 1) else q
set_option maxRecDepth 100000 in
theorem lt224_A_0 : xAt kt224_A 0 (.aload_n 0) 1 := ⟨1, rfl, Or.inr rfl, rfl⟩
set_option maxRecDepth 100000 in
theorem lt224_A_1 : xAt kt224_A 1 (.iload_n 1) 2 := ⟨1, rfl, Or.inr rfl, rfl⟩
set_option maxRecDepth 100000 in
theorem lt224_A_2 : xAt kt224_A 2 (.invokevirtual 155) 5 := ⟨3, rfl, Or.inr rfl, rfl⟩
set_option maxRecDepth 100000 in
theorem lt224_A_5 : xAt kt224_A 5 (.astore_n 3) 6 := ⟨1, rfl, Or.inr rfl, rfl⟩
set_option maxRecDepth 100000 in
theorem lt224_A_6 : xAt kt224_A 6 (.iload_n 2) 7 := ⟨1, rfl, Or.inr rfl, rfl⟩
set_option maxRecDepth 100000 in
theorem lt224_A_7 : xAt kt224_A 7 (.ifCond .lt 10) 10 := ⟨3, rfl, Or.inr rfl, rfl⟩
set_option maxRecDepth 100000 in
theorem lt224_A_10 : xAt kt224_A 10 (.iload_n 2) 11 := ⟨1, rfl, Or.inr rfl, rfl⟩
set_option maxRecDepth 100000 in
theorem lt224_A_11 : xAt kt224_A 11 (.sipush 1000) 14 := ⟨3, rfl, Or.inr rfl, rfl⟩
set_option maxRecDepth 100000 in
theorem lt224_A_14 : xAt kt224_A 14 (.if_icmp .le 11) 17 := ⟨3, rfl, Or.inr rfl, rfl⟩
set_option maxRecDepth 100000 in
theorem lt224_A_17 : xAt kt224_A 17 (.return_) 18 := ⟨1, rfl, Or.inr rfl, rfl⟩
set_option maxRecDepth 100000 in
theorem lt224_A_25 : xAt kt224_A 25 (.aload_n 0) 26 := ⟨1, rfl, Or.inr rfl, rfl⟩
set_option maxRecDepth 100000 in
theorem lt224_A_26 : xAt kt224_A 26 (.getfield 42) 29 := ⟨3, rfl, Or.inr rfl, rfl⟩
set_option maxRecDepth 100000 in
theorem lt224_A_29 : xAt kt224_A 29 (.getfield 159) 32 := ⟨3, rfl, Or.inr rfl, rfl⟩
set_option maxRecDepth 100000 in
theorem lt224_A_32 : xAt kt224_A 32 (.aload_n 3) 33 := ⟨1, rfl, Or.inr rfl, rfl⟩
set_option maxRecDepth 100000 in
theorem lt224_A_33 : xAt kt224_A 33 (.getfield 162) 36 := ⟨3, rfl, Or.inr rfl, rfl⟩
set_option maxRecDepth 100000 in
theorem lt224_A_36 : xAt kt224_A 36 (.iaload) 37 := ⟨1, rfl, Or.inr rfl, rfl⟩
set_option maxRecDepth 100000 in
theorem lt224_A_37 : xAt kt224_A 37 (.istore 4) 39 := ⟨2, rfl, Or.inr rfl, rfl⟩
set_option maxRecDepth 100000 in
theorem lt224_A_39 : xAt kt224_A 39 (.aload_n 0) 40 := ⟨1, rfl, Or.inr rfl, rfl⟩
set_option maxRecDepth 100000 in
theorem lt224_A_40 : xAt kt224_A 40 (.getfield 42) 43 := ⟨3, rfl, Or.inr rfl, rfl⟩
set_option maxRecDepth 100000 in
theorem lt224_A_43 : xAt kt224_A 43 (.getfield 159) 46 := ⟨3, rfl, Or.inr rfl, rfl⟩
set_option maxRecDepth 100000 in
theorem lt224_A_46 : xAt kt224_A 46 (.aload_n 3) 47 := ⟨1, rfl, Or.inr rfl, rfl⟩
set_option maxRecDepth 100000 in
theorem lt224_A_47 : xAt kt224_A 47 (.getfield 162) 50 := ⟨3, rfl, Or.inr rfl, rfl⟩
set_option maxRecDepth 100000 in
theorem lt224_A_50 : xAt kt224_A 50 (.iload_n 2) 51 := ⟨1, rfl, Or.inr rfl, rfl⟩
set_option maxRecDepth 100000 in
theorem lt224_A_51 : xAt kt224_A 51 (.iastore) 52 := ⟨1, rfl, Or.inr rfl, rfl⟩
set_option maxRecDepth 100000 in
theorem lt224_A_52 : xAt kt224_A 52 (.iload 4) 54 := ⟨2, rfl, Or.inr rfl, rfl⟩
/-- k_Face_machineWith to where it throws -/
def kt226_J : xK := (kT226.filter fun q => !(xend q.2.1)).map fun q => if [28].contains q.1 then (q.1, .return_, 1) else q
set_option maxRecDepth 100000 in
theorem lt226_J_0 : xAt kt226_J 0 (.aload_n 0) 1 := ⟨1, rfl, Or.inr rfl, rfl⟩
set_option maxRecDepth 100000 in
theorem lt226_J_1 : xAt kt226_J 1 (.iload_n 1) 2 := ⟨1, rfl, Or.inr rfl, rfl⟩
set_option maxRecDepth 100000 in
theorem lt226_J_2 : xAt kt226_J 2 (.invokevirtual 155) 5 := ⟨3, rfl, Or.inr rfl, rfl⟩
set_option maxRecDepth 100000 in
theorem lt226_J_5 : xAt kt226_J 5 (.astore_n 3) 6 := ⟨1, rfl, Or.inr rfl, rfl⟩
set_option maxRecDepth 100000 in
theorem lt226_J_6 : xAt kt226_J 6 (.aload_n 3) 7 := ⟨1, rfl, Or.inr rfl, rfl⟩
set_option maxRecDepth 100000 in
theorem lt226_J_7 : xAt kt226_J 7 (.getfield 165) 10 := ⟨3, rfl, Or.inr rfl, rfl⟩
set_option maxRecDepth 100000 in
theorem lt226_J_10 : xAt kt226_J 10 (.ifCond .eq 18) 13 := ⟨3, rfl, Or.inr rfl, rfl⟩
set_option maxRecDepth 100000 in
theorem lt226_J_13 : xAt kt226_J 13 (.iload_n 2) 14 := ⟨1, rfl, Or.inr rfl, rfl⟩
set_option maxRecDepth 100000 in
theorem lt226_J_14 : xAt kt226_J 14 (.ifCond .lt 14) 17 := ⟨3, rfl, Or.inr rfl, rfl⟩
set_option maxRecDepth 100000 in
theorem lt226_J_17 : xAt kt226_J 17 (.iload_n 2) 18 := ⟨1, rfl, Or.inr rfl, rfl⟩
set_option maxRecDepth 100000 in
theorem lt226_J_18 : xAt kt226_J 18 (.aload_n 3) 19 := ⟨1, rfl, Or.inr rfl, rfl⟩
set_option maxRecDepth 100000 in
theorem lt226_J_19 : xAt kt226_J 19 (.getfield 317) 22 := ⟨3, rfl, Or.inr rfl, rfl⟩
set_option maxRecDepth 100000 in
theorem lt226_J_22 : xAt kt226_J 22 (.getfield 321) 25 := ⟨3, rfl, Or.inr rfl, rfl⟩
set_option maxRecDepth 100000 in
theorem lt226_J_25 : xAt kt226_J 25 (.if_icmp .lt 11) 28 := ⟨3, rfl, Or.inr rfl, rfl⟩
set_option maxRecDepth 100000 in
theorem lt226_J_28 : xAt kt226_J 28 (.return_) 29 := ⟨1, rfl, Or.inr rfl, rfl⟩
set_option maxRecDepth 100000 in
theorem lt226_J_36 : xAt kt226_J 36 (.aload_n 3) 37 := ⟨1, rfl, Or.inr rfl, rfl⟩
set_option maxRecDepth 100000 in
theorem lt226_J_37 : xAt kt226_J 37 (.getfield 317) 40 := ⟨3, rfl, Or.inr rfl, rfl⟩
/-- k_Face_meddle to where it throws -/
def kt227_A : xK := (kT227.filter fun q => !(xend q.2.1)).map fun q => if [20].contains q.1 then (q.1, .return_, 1) else q
set_option maxRecDepth 100000 in
theorem lt227_A_0 : xAt kt227_A 0 (.iload_n 2) 1 := ⟨1, rfl, Or.inr rfl, rfl⟩
set_option maxRecDepth 100000 in
theorem lt227_A_1 : xAt kt227_A 1 (.ifCond .lt 19) 4 := ⟨3, rfl, Or.inr rfl, rfl⟩
set_option maxRecDepth 100000 in
theorem lt227_A_4 : xAt kt227_A 4 (.iload_n 2) 5 := ⟨1, rfl, Or.inr rfl, rfl⟩
set_option maxRecDepth 100000 in
theorem lt227_A_5 : xAt kt227_A 5 (.iconst 2) 6 := ⟨1, rfl, Or.inr rfl, rfl⟩
set_option maxRecDepth 100000 in
theorem lt227_A_6 : xAt kt227_A 6 (.if_icmp .gt 14) 9 := ⟨3, rfl, Or.inr rfl, rfl⟩
set_option maxRecDepth 100000 in
theorem lt227_A_9 : xAt kt227_A 9 (.iload_n 3) 10 := ⟨1, rfl, Or.inr rfl, rfl⟩
set_option maxRecDepth 100000 in
theorem lt227_A_10 : xAt kt227_A 10 (.ifCond .lt 10) 13 := ⟨3, rfl, Or.inr rfl, rfl⟩
set_option maxRecDepth 100000 in
theorem lt227_A_13 : xAt kt227_A 13 (.iload_n 3) 14 := ⟨1, rfl, Or.inr rfl, rfl⟩
set_option maxRecDepth 100000 in
theorem lt227_A_14 : xAt kt227_A 14 (.sipush 1000) 17 := ⟨3, rfl, Or.inr rfl, rfl⟩
set_option maxRecDepth 100000 in
theorem lt227_A_17 : xAt kt227_A 17 (.if_icmp .le 11) 20 := ⟨3, rfl, Or.inr rfl, rfl⟩
set_option maxRecDepth 100000 in
theorem lt227_A_20 : xAt kt227_A 20 (.return_) 21 := ⟨1, rfl, Or.inr rfl, rfl⟩
set_option maxRecDepth 100000 in
theorem lt227_A_28 : xAt kt227_A 28 (.aload_n 0) 29 := ⟨1, rfl, Or.inr rfl, rfl⟩
set_option maxRecDepth 100000 in
theorem lt227_A_29 : xAt kt227_A 29 (.getfield 42) 32 := ⟨3, rfl, Or.inr rfl, rfl⟩
set_option maxRecDepth 100000 in
theorem lt227_A_32 : xAt kt227_A 32 (.iload_n 1) 33 := ⟨1, rfl, Or.inr rfl, rfl⟩
set_option maxRecDepth 100000 in
theorem lt227_A_33 : xAt kt227_A 33 (.invokevirtual 142) 36 := ⟨3, rfl, Or.inr rfl, rfl⟩
set_option maxRecDepth 100000 in
theorem lt227_A_36 : xAt kt227_A 36 (.ifCond .ne 5) 39 := ⟨3, rfl, Or.inr rfl, rfl⟩
set_option maxRecDepth 100000 in
theorem lt227_A_39 : xAt kt227_A 39 (.iconst 0) 40 := ⟨1, rfl, Or.inr rfl, rfl⟩
set_option maxRecDepth 100000 in
theorem lt227_A_41 : xAt kt227_A 41 (.iload_n 2) 42 := ⟨1, rfl, Or.inr rfl, rfl⟩
set_option maxRecDepth 100000 in
theorem lt227_A_42 : xAt kt227_A 42 (.ifCond .ne 14) 45 := ⟨3, rfl, Or.inr rfl, rfl⟩
set_option maxRecDepth 100000 in
theorem lt227_A_45 : xAt kt227_A 45 (.aload_n 0) 46 := ⟨1, rfl, Or.inr rfl, rfl⟩
set_option maxRecDepth 100000 in
theorem lt227_A_46 : xAt kt227_A 46 (.getfield 42) 49 := ⟨3, rfl, Or.inr rfl, rfl⟩
set_option maxRecDepth 100000 in
theorem lt227_A_49 : xAt kt227_A 49 (.iload_n 1) 50 := ⟨1, rfl, Or.inr rfl, rfl⟩
set_option maxRecDepth 100000 in
theorem lt227_A_50 : xAt kt227_A 50 (.invokevirtual 145) 53 := ⟨3, rfl, Or.inr rfl, rfl⟩
set_option maxRecDepth 100000 in
theorem lt227_A_53 : xAt kt227_A 53 (.goto 28) 56 := ⟨3, rfl, Or.inr rfl, rfl⟩
set_option maxRecDepth 100000 in
theorem lt227_A_56 : xAt kt227_A 56 (.iload_n 2) 57 := ⟨1, rfl, Or.inr rfl, rfl⟩
set_option maxRecDepth 100000 in
theorem lt227_A_57 : xAt kt227_A 57 (.iconst 1) 58 := ⟨1, rfl, Or.inr rfl, rfl⟩
set_option maxRecDepth 100000 in
theorem lt227_A_58 : xAt kt227_A 58 (.if_icmp .ne 14) 61 := ⟨3, rfl, Or.inr rfl, rfl⟩
set_option maxRecDepth 100000 in
theorem lt227_A_61 : xAt kt227_A 61 (.aload_n 0) 62 := ⟨1, rfl, Or.inr rfl, rfl⟩
set_option maxRecDepth 100000 in
theorem lt227_A_62 : xAt kt227_A 62 (.getfield 42) 65 := ⟨3, rfl, Or.inr rfl, rfl⟩
set_option maxRecDepth 100000 in
theorem lt227_A_65 : xAt kt227_A 65 (.iload_n 1) 66 := ⟨1, rfl, Or.inr rfl, rfl⟩
set_option maxRecDepth 100000 in
theorem lt227_A_66 : xAt kt227_A 66 (.invokevirtual 148) 69 := ⟨3, rfl, Or.inr rfl, rfl⟩
set_option maxRecDepth 100000 in
theorem lt227_A_69 : xAt kt227_A 69 (.goto 12) 72 := ⟨3, rfl, Or.inr rfl, rfl⟩
set_option maxRecDepth 100000 in
theorem lt227_A_72 : xAt kt227_A 72 (.aload_n 0) 73 := ⟨1, rfl, Or.inr rfl, rfl⟩
set_option maxRecDepth 100000 in
theorem lt227_A_73 : xAt kt227_A 73 (.getfield 42) 76 := ⟨3, rfl, Or.inr rfl, rfl⟩
set_option maxRecDepth 100000 in
theorem lt227_A_76 : xAt kt227_A 76 (.iload_n 1) 77 := ⟨1, rfl, Or.inr rfl, rfl⟩
set_option maxRecDepth 100000 in
theorem lt227_A_77 : xAt kt227_A 77 (.iload_n 3) 78 := ⟨1, rfl, Or.inr rfl, rfl⟩
set_option maxRecDepth 100000 in
theorem lt227_A_78 : xAt kt227_A 78 (.invokevirtual 151) 81 := ⟨3, rfl, Or.inr rfl, rfl⟩
set_option maxRecDepth 100000 in
theorem lt227_A_81 : xAt kt227_A 81 (.iconst 1) 82 := ⟨1, rfl, Or.inr rfl, rfl⟩
/-- k_Face_message to where it throws -/
def kt229_J : xK := (kT229.filter fun q => !(xend q.2.1)).map fun q => if [20].contains q.1 then (q.1, .return_, 1) else q
set_option maxRecDepth 100000 in
theorem lt229_J_0 : xAt kt229_J 0 (.aload_n 0) 1 := ⟨1, rfl, Or.inr rfl, rfl⟩
set_option maxRecDepth 100000 in
theorem lt229_J_1 : xAt kt229_J 1 (.getfield 42) 4 := ⟨3, rfl, Or.inr rfl, rfl⟩
set_option maxRecDepth 100000 in
theorem lt229_J_4 : xAt kt229_J 4 (.iload_n 1) 5 := ⟨1, rfl, Or.inr rfl, rfl⟩
set_option maxRecDepth 100000 in
theorem lt229_J_5 : xAt kt229_J 5 (.invokevirtual 142) 8 := ⟨3, rfl, Or.inr rfl, rfl⟩
set_option maxRecDepth 100000 in
theorem lt229_J_8 : xAt kt229_J 8 (.ifCond .eq 12) 11 := ⟨3, rfl, Or.inr rfl, rfl⟩
set_option maxRecDepth 100000 in
theorem lt229_J_11 : xAt kt229_J 11 (.iload_n 2) 12 := ⟨1, rfl, Or.inr rfl, rfl⟩
set_option maxRecDepth 100000 in
theorem lt229_J_12 : xAt kt229_J 12 (.ifCond .lt 8) 15 := ⟨3, rfl, Or.inr rfl, rfl⟩
set_option maxRecDepth 100000 in
theorem lt229_J_15 : xAt kt229_J 15 (.iload_n 2) 16 := ⟨1, rfl, Or.inr rfl, rfl⟩
set_option maxRecDepth 100000 in
theorem lt229_J_16 : xAt kt229_J 16 (.iconst 4) 17 := ⟨1, rfl, Or.inr rfl, rfl⟩
set_option maxRecDepth 100000 in
theorem lt229_J_17 : xAt kt229_J 17 (.if_icmp .le 11) 20 := ⟨3, rfl, Or.inr rfl, rfl⟩
set_option maxRecDepth 100000 in
theorem lt229_J_20 : xAt kt229_J 20 (.return_) 21 := ⟨1, rfl, Or.inr rfl, rfl⟩
set_option maxRecDepth 100000 in
theorem lt229_J_28 : xAt kt229_J 28 (.aload_n 0) 29 := ⟨1, rfl, Or.inr rfl, rfl⟩
set_option maxRecDepth 100000 in
theorem lt229_J_29 : xAt kt229_J 29 (.getfield 42) 32 := ⟨3, rfl, Or.inr rfl, rfl⟩
set_option maxRecDepth 100000 in
theorem lt229_J_32 : xAt kt229_J 32 (.getfield 248) 35 := ⟨3, rfl, Or.inr rfl, rfl⟩
set_option maxRecDepth 100000 in
theorem lt229_J_35 : xAt kt229_J 35 (.iload_n 1) 36 := ⟨1, rfl, Or.inr rfl, rfl⟩
set_option maxRecDepth 100000 in
theorem lt229_J_36 : xAt kt229_J 36 (.invokevirtual 252) 39 := ⟨3, rfl, Or.inr rfl, rfl⟩
set_option maxRecDepth 100000 in
theorem lt229_J_39 : xAt kt229_J 39 (.checkcast 258) 42 := ⟨3, rfl, Or.inr rfl, rfl⟩
set_option maxRecDepth 100000 in
theorem lt229_J_42 : xAt kt229_J 42 (.astore_n 3) 43 := ⟨1, rfl, Or.inr rfl, rfl⟩
set_option maxRecDepth 100000 in
theorem lt229_J_43 : xAt kt229_J 43 (.iload_n 2) 44 := ⟨1, rfl, Or.inr rfl, rfl⟩
set_option maxRecDepth 100000 in
theorem lt229_J_44 : xAt kt229_J 44 (.tableswitch 52 0 3 #[32, 37, 42, 47]) 76 := ⟨32, rfl, Or.inl rfl, rfl⟩
set_option maxRecDepth 100000 in
theorem lt229_J_76 : xAt kt229_J 76 (.aload_n 3) 77 := ⟨1, rfl, Or.inr rfl, rfl⟩
set_option maxRecDepth 100000 in
theorem lt229_J_77 : xAt kt229_J 77 (.getfield 260) 80 := ⟨3, rfl, Or.inr rfl, rfl⟩
set_option maxRecDepth 100000 in
theorem lt229_J_81 : xAt kt229_J 81 (.aload_n 3) 82 := ⟨1, rfl, Or.inr rfl, rfl⟩
set_option maxRecDepth 100000 in
theorem lt229_J_82 : xAt kt229_J 82 (.getfield 263) 85 := ⟨3, rfl, Or.inr rfl, rfl⟩
set_option maxRecDepth 100000 in
theorem lt229_J_86 : xAt kt229_J 86 (.aload_n 3) 87 := ⟨1, rfl, Or.inr rfl, rfl⟩
set_option maxRecDepth 100000 in
theorem lt229_J_87 : xAt kt229_J 87 (.getfield 266) 90 := ⟨3, rfl, Or.inr rfl, rfl⟩
set_option maxRecDepth 100000 in
theorem lt229_J_91 : xAt kt229_J 91 (.aload_n 3) 92 := ⟨1, rfl, Or.inr rfl, rfl⟩
set_option maxRecDepth 100000 in
theorem lt229_J_92 : xAt kt229_J 92 (.getfield 269) 95 := ⟨3, rfl, Or.inr rfl, rfl⟩
set_option maxRecDepth 100000 in
theorem lt229_J_96 : xAt kt229_J 96 (.aload_n 3) 97 := ⟨1, rfl, Or.inr rfl, rfl⟩
set_option maxRecDepth 100000 in
theorem lt229_J_97 : xAt kt229_J 97 (.getfield 272) 100 := ⟨3, rfl, Or.inr rfl, rfl⟩
/-- k_Face_noise to where it throws -/
def kt230_A : xK := (kT230.filter fun q => !(xend q.2.1)).map fun q => if [33].contains q.1 then (q.1, .return_, 1) else q
set_option maxRecDepth 100000 in
theorem lt230_A_0 : xAt kt230_A 0 (.iload_n 1) 1 := ⟨1, rfl, Or.inr rfl, rfl⟩
set_option maxRecDepth 100000 in
theorem lt230_A_1 : xAt kt230_A 1 (.ifCond .lt 32) 4 := ⟨3, rfl, Or.inr rfl, rfl⟩
set_option maxRecDepth 100000 in
theorem lt230_A_4 : xAt kt230_A 4 (.iload_n 1) 5 := ⟨1, rfl, Or.inr rfl, rfl⟩
set_option maxRecDepth 100000 in
theorem lt230_A_5 : xAt kt230_A 5 (.sipush 1000) 8 := ⟨3, rfl, Or.inr rfl, rfl⟩
set_option maxRecDepth 100000 in
theorem lt230_A_8 : xAt kt230_A 8 (.if_icmp .gt 25) 11 := ⟨3, rfl, Or.inr rfl, rfl⟩
set_option maxRecDepth 100000 in
theorem lt230_A_11 : xAt kt230_A 11 (.iload_n 2) 12 := ⟨1, rfl, Or.inr rfl, rfl⟩
set_option maxRecDepth 100000 in
theorem lt230_A_12 : xAt kt230_A 12 (.ifCond .lt 21) 15 := ⟨3, rfl, Or.inr rfl, rfl⟩
set_option maxRecDepth 100000 in
theorem lt230_A_15 : xAt kt230_A 15 (.iload_n 2) 16 := ⟨1, rfl, Or.inr rfl, rfl⟩
set_option maxRecDepth 100000 in
theorem lt230_A_16 : xAt kt230_A 16 (.sipush 1000) 19 := ⟨3, rfl, Or.inr rfl, rfl⟩
set_option maxRecDepth 100000 in
theorem lt230_A_19 : xAt kt230_A 19 (.if_icmp .gt 14) 22 := ⟨3, rfl, Or.inr rfl, rfl⟩
set_option maxRecDepth 100000 in
theorem lt230_A_22 : xAt kt230_A 22 (.iload_n 3) 23 := ⟨1, rfl, Or.inr rfl, rfl⟩
set_option maxRecDepth 100000 in
theorem lt230_A_23 : xAt kt230_A 23 (.ifCond .lt 10) 26 := ⟨3, rfl, Or.inr rfl, rfl⟩
set_option maxRecDepth 100000 in
theorem lt230_A_26 : xAt kt230_A 26 (.iload_n 3) 27 := ⟨1, rfl, Or.inr rfl, rfl⟩
set_option maxRecDepth 100000 in
theorem lt230_A_27 : xAt kt230_A 27 (.sipush 1000) 30 := ⟨3, rfl, Or.inr rfl, rfl⟩
set_option maxRecDepth 100000 in
theorem lt230_A_30 : xAt kt230_A 30 (.if_icmp .le 11) 33 := ⟨3, rfl, Or.inr rfl, rfl⟩
set_option maxRecDepth 100000 in
theorem lt230_A_33 : xAt kt230_A 33 (.return_) 34 := ⟨1, rfl, Or.inr rfl, rfl⟩
set_option maxRecDepth 100000 in
theorem lt230_A_41 : xAt kt230_A 41 (.aload_n 0) 42 := ⟨1, rfl, Or.inr rfl, rfl⟩
set_option maxRecDepth 100000 in
theorem lt230_A_42 : xAt kt230_A 42 (.getfield 42) 45 := ⟨3, rfl, Or.inr rfl, rfl⟩
set_option maxRecDepth 100000 in
theorem lt230_A_45 : xAt kt230_A 45 (.iload_n 1) 46 := ⟨1, rfl, Or.inr rfl, rfl⟩
set_option maxRecDepth 100000 in
theorem lt230_A_46 : xAt kt230_A 46 (.putfield 129) 49 := ⟨3, rfl, Or.inr rfl, rfl⟩
set_option maxRecDepth 100000 in
theorem lt230_A_49 : xAt kt230_A 49 (.aload_n 0) 50 := ⟨1, rfl, Or.inr rfl, rfl⟩
set_option maxRecDepth 100000 in
theorem lt230_A_50 : xAt kt230_A 50 (.getfield 42) 53 := ⟨3, rfl, Or.inr rfl, rfl⟩
set_option maxRecDepth 100000 in
theorem lt230_A_53 : xAt kt230_A 53 (.iload_n 2) 54 := ⟨1, rfl, Or.inr rfl, rfl⟩
set_option maxRecDepth 100000 in
theorem lt230_A_54 : xAt kt230_A 54 (.putfield 132) 57 := ⟨3, rfl, Or.inr rfl, rfl⟩
set_option maxRecDepth 100000 in
theorem lt230_A_57 : xAt kt230_A 57 (.aload_n 0) 58 := ⟨1, rfl, Or.inr rfl, rfl⟩
set_option maxRecDepth 100000 in
theorem lt230_A_58 : xAt kt230_A 58 (.getfield 42) 61 := ⟨3, rfl, Or.inr rfl, rfl⟩
set_option maxRecDepth 100000 in
theorem lt230_A_61 : xAt kt230_A 61 (.iload_n 3) 62 := ⟨1, rfl, Or.inr rfl, rfl⟩
set_option maxRecDepth 100000 in
theorem lt230_A_62 : xAt kt230_A 62 (.putfield 135) 65 := ⟨3, rfl, Or.inr rfl, rfl⟩
set_option maxRecDepth 100000 in
theorem lt230_A_65 : xAt kt230_A 65 (.aload_n 0) 66 := ⟨1, rfl, Or.inr rfl, rfl⟩
set_option maxRecDepth 100000 in
theorem lt230_A_66 : xAt kt230_A 66 (.getfield 42) 69 := ⟨3, rfl, Or.inr rfl, rfl⟩
set_option maxRecDepth 100000 in
theorem lt230_A_69 : xAt kt230_A 69 (.lload 4) 71 := ⟨2, rfl, Or.inr rfl, rfl⟩
set_option maxRecDepth 100000 in
theorem lt230_A_71 : xAt kt230_A 71 (.putfield 138) 74 := ⟨3, rfl, Or.inr rfl, rfl⟩
/-- k_Face_part to where it throws -/
def kt232_A : xK := (kT232.filter fun q => !(xend q.2.1)).map fun q => if [10].contains q.1 then (q.1, .return_, 1) else q
set_option maxRecDepth 100000 in
theorem lt232_A_0 : xAt kt232_A 0 (.iload_n 1) 1 := ⟨1, rfl, Or.inr rfl, rfl⟩
set_option maxRecDepth 100000 in
theorem lt232_A_1 : xAt kt232_A 1 (.ifCond .lt 9) 4 := ⟨3, rfl, Or.inr rfl, rfl⟩
set_option maxRecDepth 100000 in
theorem lt232_A_4 : xAt kt232_A 4 (.iload_n 1) 5 := ⟨1, rfl, Or.inr rfl, rfl⟩
set_option maxRecDepth 100000 in
theorem lt232_A_5 : xAt kt232_A 5 (.ldc 125) 7 := ⟨2, rfl, Or.inr rfl, rfl⟩
set_option maxRecDepth 100000 in
theorem lt232_A_7 : xAt kt232_A 7 (.if_icmp .lt 11) 10 := ⟨3, rfl, Or.inr rfl, rfl⟩
set_option maxRecDepth 100000 in
theorem lt232_A_10 : xAt kt232_A 10 (.return_) 11 := ⟨1, rfl, Or.inr rfl, rfl⟩
set_option maxRecDepth 100000 in
theorem lt232_A_18 : xAt kt232_A 18 (.aload_n 0) 19 := ⟨1, rfl, Or.inr rfl, rfl⟩
set_option maxRecDepth 100000 in
theorem lt232_A_19 : xAt kt232_A 19 (.getfield 42) 22 := ⟨3, rfl, Or.inr rfl, rfl⟩
set_option maxRecDepth 100000 in
theorem lt232_A_22 : xAt kt232_A 22 (.getfield 126) 25 := ⟨3, rfl, Or.inr rfl, rfl⟩
set_option maxRecDepth 100000 in
theorem lt232_A_25 : xAt kt232_A 25 (.istore_n 2) 26 := ⟨1, rfl, Or.inr rfl, rfl⟩
set_option maxRecDepth 100000 in
theorem lt232_A_26 : xAt kt232_A 26 (.aload_n 0) 27 := ⟨1, rfl, Or.inr rfl, rfl⟩
set_option maxRecDepth 100000 in
theorem lt232_A_27 : xAt kt232_A 27 (.getfield 42) 30 := ⟨3, rfl, Or.inr rfl, rfl⟩
set_option maxRecDepth 100000 in
theorem lt232_A_30 : xAt kt232_A 30 (.iload_n 1) 31 := ⟨1, rfl, Or.inr rfl, rfl⟩
set_option maxRecDepth 100000 in
theorem lt232_A_31 : xAt kt232_A 31 (.putfield 126) 34 := ⟨3, rfl, Or.inr rfl, rfl⟩
set_option maxRecDepth 100000 in
theorem lt232_A_34 : xAt kt232_A 34 (.iload_n 2) 35 := ⟨1, rfl, Or.inr rfl, rfl⟩
/-- k_Face_run to where it throws -/
def kt234_A : xK := (kT234.filter fun q => !(xend q.2.1)).map fun q => if [12].contains q.1 then (q.1, .return_, 1) else q
set_option maxRecDepth 100000 in
theorem lt234_A_0 : xAt kt234_A 0 (.iload_n 1) 1 := ⟨1, rfl, Or.inr rfl, rfl⟩
set_option maxRecDepth 100000 in
theorem lt234_A_1 : xAt kt234_A 1 (.iconst 1) 2 := ⟨1, rfl, Or.inr rfl, rfl⟩
set_option maxRecDepth 100000 in
theorem lt234_A_2 : xAt kt234_A 2 (.if_icmp .lt 10) 5 := ⟨3, rfl, Or.inr rfl, rfl⟩
set_option maxRecDepth 100000 in
theorem lt234_A_5 : xAt kt234_A 5 (.iload_n 1) 6 := ⟨1, rfl, Or.inr rfl, rfl⟩
set_option maxRecDepth 100000 in
theorem lt234_A_6 : xAt kt234_A 6 (.sipush 1000) 9 := ⟨3, rfl, Or.inr rfl, rfl⟩
set_option maxRecDepth 100000 in
theorem lt234_A_9 : xAt kt234_A 9 (.if_icmp .le 11) 12 := ⟨3, rfl, Or.inr rfl, rfl⟩
set_option maxRecDepth 100000 in
theorem lt234_A_12 : xAt kt234_A 12 (.return_) 13 := ⟨1, rfl, Or.inr rfl, rfl⟩
set_option maxRecDepth 100000 in
theorem lt234_A_20 : xAt kt234_A 20 (.aload_n 0) 21 := ⟨1, rfl, Or.inr rfl, rfl⟩
set_option maxRecDepth 100000 in
theorem lt234_A_21 : xAt kt234_A 21 (.getfield 42) 24 := ⟨3, rfl, Or.inr rfl, rfl⟩
set_option maxRecDepth 100000 in
theorem lt234_A_24 : xAt kt234_A 24 (.getfield 105) 27 := ⟨3, rfl, Or.inr rfl, rfl⟩
set_option maxRecDepth 100000 in
theorem lt234_A_27 : xAt kt234_A 27 (.iload_n 1) 28 := ⟨1, rfl, Or.inr rfl, rfl⟩
set_option maxRecDepth 100000 in
theorem lt234_A_28 : xAt kt234_A 28 (.iadd) 29 := ⟨1, rfl, Or.inr rfl, rfl⟩
set_option maxRecDepth 100000 in
theorem lt234_A_29 : xAt kt234_A 29 (.istore_n 2) 30 := ⟨1, rfl, Or.inr rfl, rfl⟩
set_option maxRecDepth 100000 in
theorem lt234_A_30 : xAt kt234_A 30 (.iconst 0) 31 := ⟨1, rfl, Or.inr rfl, rfl⟩
set_option maxRecDepth 100000 in
theorem lt234_A_31 : xAt kt234_A 31 (.istore_n 3) 32 := ⟨1, rfl, Or.inr rfl, rfl⟩
set_option maxRecDepth 100000 in
theorem lt234_A_32 : xAt kt234_A 32 (.iload_n 3) 33 := ⟨1, rfl, Or.inr rfl, rfl⟩
set_option maxRecDepth 100000 in
theorem lt234_A_33 : xAt kt234_A 33 (.ldc 108) 35 := ⟨2, rfl, Or.inr rfl, rfl⟩
set_option maxRecDepth 100000 in
theorem lt234_A_35 : xAt kt234_A 35 (.if_icmp .ge 18) 38 := ⟨3, rfl, Or.inr rfl, rfl⟩
set_option maxRecDepth 100000 in
theorem lt234_A_38 : xAt kt234_A 38 (.aload_n 0) 39 := ⟨1, rfl, Or.inr rfl, rfl⟩
set_option maxRecDepth 100000 in
theorem lt234_A_39 : xAt kt234_A 39 (.iload_n 2) 40 := ⟨1, rfl, Or.inr rfl, rfl⟩
set_option maxRecDepth 100000 in
theorem lt234_A_40 : xAt kt234_A 40 (.invokevirtual 109) 43 := ⟨3, rfl, Or.inr rfl, rfl⟩
set_option maxRecDepth 100000 in
theorem lt234_A_43 : xAt kt234_A 43 (.iconst (-1)) 44 := ⟨1, rfl, Or.inr rfl, rfl⟩
set_option maxRecDepth 100000 in
theorem lt234_A_44 : xAt kt234_A 44 (.if_icmp .eq 9) 47 := ⟨3, rfl, Or.inr rfl, rfl⟩
set_option maxRecDepth 100000 in
theorem lt234_A_47 : xAt kt234_A 47 (.iinc 3 1) 50 := ⟨3, rfl, Or.inr rfl, rfl⟩
set_option maxRecDepth 100000 in
theorem lt234_A_50 : xAt kt234_A 50 (.goto (-18)) 53 := ⟨3, rfl, Or.inr rfl, rfl⟩
set_option maxRecDepth 100000 in
theorem lt234_A_53 : xAt kt234_A 53 (.aload_n 0) 54 := ⟨1, rfl, Or.inr rfl, rfl⟩
set_option maxRecDepth 100000 in
theorem lt234_A_54 : xAt kt234_A 54 (.getfield 42) 57 := ⟨3, rfl, Or.inr rfl, rfl⟩
set_option maxRecDepth 100000 in
theorem lt234_A_57 : xAt kt234_A 57 (.iload_n 2) 58 := ⟨1, rfl, Or.inr rfl, rfl⟩
set_option maxRecDepth 100000 in
theorem lt234_A_58 : xAt kt234_A 58 (.putfield 105) 61 := ⟨3, rfl, Or.inr rfl, rfl⟩
set_option maxRecDepth 100000 in
theorem lt234_A_61 : xAt kt234_A 61 (.iload_n 3) 62 := ⟨1, rfl, Or.inr rfl, rfl⟩
/-- k_Face_server to where it throws -/
def kt235_J : xK := (kT235.filter fun q => !(xend q.2.1)).map fun q => if [16].contains q.1 then (q.1, .return_, 1) else q
set_option maxRecDepth 100000 in
theorem lt235_J_0 : xAt kt235_J 0 (.aload_n 0) 1 := ⟨1, rfl, Or.inr rfl, rfl⟩
set_option maxRecDepth 100000 in
theorem lt235_J_1 : xAt kt235_J 1 (.iload_n 1) 2 := ⟨1, rfl, Or.inr rfl, rfl⟩
set_option maxRecDepth 100000 in
theorem lt235_J_2 : xAt kt235_J 2 (.invokevirtual 155) 5 := ⟨3, rfl, Or.inr rfl, rfl⟩
set_option maxRecDepth 100000 in
theorem lt235_J_5 : xAt kt235_J 5 (.astore_n 3) 6 := ⟨1, rfl, Or.inr rfl, rfl⟩
set_option maxRecDepth 100000 in
theorem lt235_J_6 : xAt kt235_J 6 (.iload_n 2) 7 := ⟨1, rfl, Or.inr rfl, rfl⟩
set_option maxRecDepth 100000 in
theorem lt235_J_7 : xAt kt235_J 7 (.ifCond .lt 9) 10 := ⟨3, rfl, Or.inr rfl, rfl⟩
set_option maxRecDepth 100000 in
theorem lt235_J_10 : xAt kt235_J 10 (.iload_n 2) 11 := ⟨1, rfl, Or.inr rfl, rfl⟩
set_option maxRecDepth 100000 in
theorem lt235_J_11 : xAt kt235_J 11 (.bipush 20) 13 := ⟨2, rfl, Or.inr rfl, rfl⟩
set_option maxRecDepth 100000 in
theorem lt235_J_13 : xAt kt235_J 13 (.if_icmp .le 11) 16 := ⟨3, rfl, Or.inr rfl, rfl⟩
set_option maxRecDepth 100000 in
theorem lt235_J_16 : xAt kt235_J 16 (.return_) 17 := ⟨1, rfl, Or.inr rfl, rfl⟩
set_option maxRecDepth 100000 in
theorem lt235_J_24 : xAt kt235_J 24 (.iload_n 2) 25 := ⟨1, rfl, Or.inr rfl, rfl⟩
set_option maxRecDepth 100000 in
theorem lt235_J_25 : xAt kt235_J 25 (.ifCond .ne 16) 28 := ⟨3, rfl, Or.inr rfl, rfl⟩
set_option maxRecDepth 100000 in
theorem lt235_J_28 : xAt kt235_J 28 (.aload_n 3) 29 := ⟨1, rfl, Or.inr rfl, rfl⟩
set_option maxRecDepth 100000 in
theorem lt235_J_29 : xAt kt235_J 29 (.getfield 165) 32 := ⟨3, rfl, Or.inr rfl, rfl⟩
set_option maxRecDepth 100000 in
theorem lt235_J_32 : xAt kt235_J 32 (.ifCond .eq 7) 35 := ⟨3, rfl, Or.inr rfl, rfl⟩
set_option maxRecDepth 100000 in
theorem lt235_J_35 : xAt kt235_J 35 (.iconst 1) 36 := ⟨1, rfl, Or.inr rfl, rfl⟩
set_option maxRecDepth 100000 in
theorem lt235_J_36 : xAt kt235_J 36 (.goto 4) 39 := ⟨3, rfl, Or.inr rfl, rfl⟩
set_option maxRecDepth 100000 in
theorem lt235_J_39 : xAt kt235_J 39 (.iconst 0) 40 := ⟨1, rfl, Or.inr rfl, rfl⟩
set_option maxRecDepth 100000 in
theorem lt235_J_41 : xAt kt235_J 41 (.aload_n 3) 42 := ⟨1, rfl, Or.inr rfl, rfl⟩
set_option maxRecDepth 100000 in
theorem lt235_J_42 : xAt kt235_J 42 (.getfield 165) 45 := ⟨3, rfl, Or.inr rfl, rfl⟩
set_option maxRecDepth 100000 in
theorem lt235_J_45 : xAt kt235_J 45 (.ifCond .eq 11) 48 := ⟨3, rfl, Or.inr rfl, rfl⟩
set_option maxRecDepth 100000 in
theorem lt235_J_48 : xAt kt235_J 48 (.aload_n 3) 49 := ⟨1, rfl, Or.inr rfl, rfl⟩
set_option maxRecDepth 100000 in
theorem lt235_J_49 : xAt kt235_J 49 (.iload_n 2) 50 := ⟨1, rfl, Or.inr rfl, rfl⟩
set_option maxRecDepth 100000 in
theorem lt235_J_50 : xAt kt235_J 50 (.invokevirtual 206) 53 := ⟨3, rfl, Or.inr rfl, rfl⟩
set_option maxRecDepth 100000 in
theorem lt235_J_53 : xAt kt235_J 53 (.goto 4) 56 := ⟨3, rfl, Or.inr rfl, rfl⟩
set_option maxRecDepth 100000 in
theorem lt235_J_56 : xAt kt235_J 56 (.iconst (-1)) 57 := ⟨1, rfl, Or.inr rfl, rfl⟩
