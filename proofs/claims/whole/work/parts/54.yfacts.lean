/-! printed by wip/whole/gen_yfacts.py -/
theorem yl0_0 : xAt kT0 0 (.iload_n 3) 1 := ⟨1, rfl, Or.inr rfl, rfl⟩
theorem yl0_1 : xAt kT0 1 (.aload_n 2) 2 := ⟨1, rfl, Or.inr rfl, rfl⟩
theorem yl0_2 : xAt kT0 2 (.arraylength) 3 := ⟨1, rfl, Or.inr rfl, rfl⟩
theorem yl0_3 : xAt kT0 3 (.if_icmp .ne 8) 6 := ⟨3, rfl, Or.inr rfl, rfl⟩
theorem yl0_6 : xAt kT0 6 (.aload_n 0) 7 := ⟨1, rfl, Or.inr rfl, rfl⟩
theorem yl0_7 : xAt kT0 7 (.invokevirtual 129) 10 := ⟨3, rfl, Or.inr rfl, rfl⟩
theorem yl0_10 : xAt kT0 10 (.astore_n 2) 11 := ⟨1, rfl, Or.inr rfl, rfl⟩
theorem yl0_11 : xAt kT0 11 (.aload_n 2) 12 := ⟨1, rfl, Or.inr rfl, rfl⟩
theorem yl0_12 : xAt kT0 12 (.iload_n 3) 13 := ⟨1, rfl, Or.inr rfl, rfl⟩
theorem yl0_13 : xAt kT0 13 (.aload_n 1) 14 := ⟨1, rfl, Or.inr rfl, rfl⟩
theorem yl0_14 : xAt kT0 14 (.aastore) 15 := ⟨1, rfl, Or.inr rfl, rfl⟩
theorem yl0_15 : xAt kT0 15 (.aload_n 0) 16 := ⟨1, rfl, Or.inr rfl, rfl⟩
theorem yl0_16 : xAt kT0 16 (.iload_n 3) 17 := ⟨1, rfl, Or.inr rfl, rfl⟩
theorem yl0_17 : xAt kT0 17 (.iconst 1) 18 := ⟨1, rfl, Or.inr rfl, rfl⟩
theorem yl0_18 : xAt kT0 18 (.iadd) 19 := ⟨1, rfl, Or.inr rfl, rfl⟩
theorem yl0_19 : xAt kT0 19 (.putfield 48) 22 := ⟨3, rfl, Or.inr rfl, rfl⟩
theorem yl0_22 : xAt kT0 22 (.return_) 23 := ⟨1, rfl, Or.inr rfl, rfl⟩
theorem yl1_0 : xAt kT1 0 (.aload_n 0) 1 := ⟨1, rfl, Or.inr rfl, rfl⟩
theorem yl1_1 : xAt kT1 1 (.iload_n 1) 2 := ⟨1, rfl, Or.inr rfl, rfl⟩
theorem yl1_2 : xAt kT1 2 (.invokevirtual 135) 5 := ⟨3, rfl, Or.inr rfl, rfl⟩
theorem yl1_5 : xAt kT1 5 (.aload_n 0) 6 := ⟨1, rfl, Or.inr rfl, rfl⟩
theorem yl1_6 : xAt kT1 6 (.dup) 7 := ⟨1, rfl, Or.inr rfl, rfl⟩
theorem yl1_7 : xAt kT1 7 (.getfield 63) 10 := ⟨3, rfl, Or.inr rfl, rfl⟩
theorem yl1_10 : xAt kT1 10 (.iconst 1) 11 := ⟨1, rfl, Or.inr rfl, rfl⟩
theorem yl1_11 : xAt kT1 11 (.iadd) 12 := ⟨1, rfl, Or.inr rfl, rfl⟩
theorem yl1_12 : xAt kT1 12 (.putfield 63) 15 := ⟨3, rfl, Or.inr rfl, rfl⟩
theorem yl1_15 : xAt kT1 15 (.aload_n 0) 16 := ⟨1, rfl, Or.inr rfl, rfl⟩
theorem yl1_16 : xAt kT1 16 (.getfield 48) 19 := ⟨3, rfl, Or.inr rfl, rfl⟩
theorem yl1_19 : xAt kT1 19 (.dup) 20 := ⟨1, rfl, Or.inr rfl, rfl⟩
theorem yl1_20 : xAt kT1 20 (.istore_n 3) 21 := ⟨1, rfl, Or.inr rfl, rfl⟩
theorem yl1_21 : xAt kT1 21 (.aload_n 0) 22 := ⟨1, rfl, Or.inr rfl, rfl⟩
theorem yl1_22 : xAt kT1 22 (.getfield 9) 25 := ⟨3, rfl, Or.inr rfl, rfl⟩
theorem yl1_25 : xAt kT1 25 (.dup) 26 := ⟨1, rfl, Or.inr rfl, rfl⟩
theorem yl1_26 : xAt kT1 26 (.astore 4) 28 := ⟨2, rfl, Or.inr rfl, rfl⟩
theorem yl1_28 : xAt kT1 28 (.arraylength) 29 := ⟨1, rfl, Or.inr rfl, rfl⟩
theorem yl1_29 : xAt kT1 29 (.if_icmp .ne 9) 32 := ⟨3, rfl, Or.inr rfl, rfl⟩
theorem yl1_32 : xAt kT1 32 (.aload_n 0) 33 := ⟨1, rfl, Or.inr rfl, rfl⟩
theorem yl1_33 : xAt kT1 33 (.invokevirtual 129) 36 := ⟨3, rfl, Or.inr rfl, rfl⟩
theorem yl1_36 : xAt kT1 36 (.astore 4) 38 := ⟨2, rfl, Or.inr rfl, rfl⟩
theorem yl1_38 : xAt kT1 38 (.aload 4) 40 := ⟨2, rfl, Or.inr rfl, rfl⟩
theorem yl1_40 : xAt kT1 40 (.iload_n 1) 41 := ⟨1, rfl, Or.inr rfl, rfl⟩
theorem yl1_41 : xAt kT1 41 (.aload 4) 43 := ⟨2, rfl, Or.inr rfl, rfl⟩
theorem yl1_43 : xAt kT1 43 (.iload_n 1) 44 := ⟨1, rfl, Or.inr rfl, rfl⟩
theorem yl1_44 : xAt kT1 44 (.iconst 1) 45 := ⟨1, rfl, Or.inr rfl, rfl⟩
theorem yl1_45 : xAt kT1 45 (.iadd) 46 := ⟨1, rfl, Or.inr rfl, rfl⟩
theorem yl1_46 : xAt kT1 46 (.iload_n 3) 47 := ⟨1, rfl, Or.inr rfl, rfl⟩
theorem yl1_47 : xAt kT1 47 (.iload_n 1) 48 := ⟨1, rfl, Or.inr rfl, rfl⟩
theorem yl1_48 : xAt kT1 48 (.isub) 49 := ⟨1, rfl, Or.inr rfl, rfl⟩
theorem yl1_49 : xAt kT1 49 (.invokestatic 112) 52 := ⟨3, rfl, Or.inr rfl, rfl⟩
theorem yl1_52 : xAt kT1 52 (.aload 4) 54 := ⟨2, rfl, Or.inr rfl, rfl⟩
theorem yl1_54 : xAt kT1 54 (.iload_n 1) 55 := ⟨1, rfl, Or.inr rfl, rfl⟩
theorem yl1_55 : xAt kT1 55 (.aload_n 2) 56 := ⟨1, rfl, Or.inr rfl, rfl⟩
theorem yl1_56 : xAt kT1 56 (.aastore) 57 := ⟨1, rfl, Or.inr rfl, rfl⟩
theorem yl1_57 : xAt kT1 57 (.aload_n 0) 58 := ⟨1, rfl, Or.inr rfl, rfl⟩
theorem yl1_58 : xAt kT1 58 (.iload_n 3) 59 := ⟨1, rfl, Or.inr rfl, rfl⟩
theorem yl1_59 : xAt kT1 59 (.iconst 1) 60 := ⟨1, rfl, Or.inr rfl, rfl⟩
theorem yl1_60 : xAt kT1 60 (.iadd) 61 := ⟨1, rfl, Or.inr rfl, rfl⟩
theorem yl1_61 : xAt kT1 61 (.putfield 48) 64 := ⟨3, rfl, Or.inr rfl, rfl⟩
theorem yl1_64 : xAt kT1 64 (.return_) 65 := ⟨1, rfl, Or.inr rfl, rfl⟩
theorem yl2_0 : xAt kT2 0 (.aload_n 0) 1 := ⟨1, rfl, Or.inr rfl, rfl⟩
theorem yl2_1 : xAt kT2 1 (.dup) 2 := ⟨1, rfl, Or.inr rfl, rfl⟩
theorem yl2_2 : xAt kT2 2 (.getfield 63) 5 := ⟨3, rfl, Or.inr rfl, rfl⟩
theorem yl2_5 : xAt kT2 5 (.iconst 1) 6 := ⟨1, rfl, Or.inr rfl, rfl⟩
theorem yl2_6 : xAt kT2 6 (.iadd) 7 := ⟨1, rfl, Or.inr rfl, rfl⟩
theorem yl2_7 : xAt kT2 7 (.putfield 63) 10 := ⟨3, rfl, Or.inr rfl, rfl⟩
theorem yl2_10 : xAt kT2 10 (.aload_n 0) 11 := ⟨1, rfl, Or.inr rfl, rfl⟩
theorem yl2_11 : xAt kT2 11 (.aload_n 1) 12 := ⟨1, rfl, Or.inr rfl, rfl⟩
theorem yl2_12 : xAt kT2 12 (.aload_n 0) 13 := ⟨1, rfl, Or.inr rfl, rfl⟩
theorem yl2_13 : xAt kT2 13 (.getfield 9) 16 := ⟨3, rfl, Or.inr rfl, rfl⟩
theorem yl2_16 : xAt kT2 16 (.aload_n 0) 17 := ⟨1, rfl, Or.inr rfl, rfl⟩
theorem yl2_17 : xAt kT2 17 (.getfield 48) 20 := ⟨3, rfl, Or.inr rfl, rfl⟩
theorem yl2_20 : xAt kT2 20 (.invokevirtual 131) 23 := ⟨3, rfl, Or.inr rfl, rfl⟩
theorem yl2_23 : xAt kT2 23 (.iconst 1) 24 := ⟨1, rfl, Or.inr rfl, rfl⟩
theorem yl2_24 : xAt kT2 24 (.ireturn) 25 := ⟨1, rfl, Or.inr rfl, rfl⟩
theorem yl3_0 : xAt kT3 0 (.aload_n 0) 1 := ⟨1, rfl, Or.inr rfl, rfl⟩
theorem yl3_1 : xAt kT3 1 (.dup) 2 := ⟨1, rfl, Or.inr rfl, rfl⟩
theorem yl3_2 : xAt kT3 2 (.getfield 63) 5 := ⟨3, rfl, Or.inr rfl, rfl⟩
theorem yl3_5 : xAt kT3 5 (.iconst 1) 6 := ⟨1, rfl, Or.inr rfl, rfl⟩
theorem yl3_6 : xAt kT3 6 (.iadd) 7 := ⟨1, rfl, Or.inr rfl, rfl⟩
theorem yl3_7 : xAt kT3 7 (.putfield 63) 10 := ⟨3, rfl, Or.inr rfl, rfl⟩
theorem yl3_10 : xAt kT3 10 (.aload_n 0) 11 := ⟨1, rfl, Or.inr rfl, rfl⟩
theorem yl3_11 : xAt kT3 11 (.getfield 9) 14 := ⟨3, rfl, Or.inr rfl, rfl⟩
theorem yl3_14 : xAt kT3 14 (.astore_n 1) 15 := ⟨1, rfl, Or.inr rfl, rfl⟩
theorem yl3_15 : xAt kT3 15 (.aload_n 0) 16 := ⟨1, rfl, Or.inr rfl, rfl⟩
theorem yl3_16 : xAt kT3 16 (.getfield 48) 19 := ⟨3, rfl, Or.inr rfl, rfl⟩
theorem yl3_19 : xAt kT3 19 (.istore_n 2) 20 := ⟨1, rfl, Or.inr rfl, rfl⟩
theorem yl3_20 : xAt kT3 20 (.aload_n 0) 21 := ⟨1, rfl, Or.inr rfl, rfl⟩
theorem yl3_21 : xAt kT3 21 (.iconst 0) 22 := ⟨1, rfl, Or.inr rfl, rfl⟩
theorem yl3_22 : xAt kT3 22 (.dup_x1) 23 := ⟨1, rfl, Or.inr rfl, rfl⟩
theorem yl3_23 : xAt kT3 23 (.putfield 48) 26 := ⟨3, rfl, Or.inr rfl, rfl⟩
theorem yl3_26 : xAt kT3 26 (.istore_n 3) 27 := ⟨1, rfl, Or.inr rfl, rfl⟩
theorem yl3_27 : xAt kT3 27 (.iload_n 3) 28 := ⟨1, rfl, Or.inr rfl, rfl⟩
theorem yl3_28 : xAt kT3 28 (.iload_n 2) 29 := ⟨1, rfl, Or.inr rfl, rfl⟩
theorem yl3_29 : xAt kT3 29 (.if_icmp .ge 13) 32 := ⟨3, rfl, Or.inr rfl, rfl⟩
theorem yl3_32 : xAt kT3 32 (.aload_n 1) 33 := ⟨1, rfl, Or.inr rfl, rfl⟩
theorem yl3_33 : xAt kT3 33 (.iload_n 3) 34 := ⟨1, rfl, Or.inr rfl, rfl⟩
theorem yl3_34 : xAt kT3 34 (.aconst_null) 35 := ⟨1, rfl, Or.inr rfl, rfl⟩
theorem yl3_35 : xAt kT3 35 (.aastore) 36 := ⟨1, rfl, Or.inr rfl, rfl⟩
theorem yl3_36 : xAt kT3 36 (.iinc 3 1) 39 := ⟨3, rfl, Or.inr rfl, rfl⟩
theorem yl3_39 : xAt kT3 39 (.goto (-12)) 42 := ⟨3, rfl, Or.inr rfl, rfl⟩
theorem yl3_42 : xAt kT3 42 (.return_) 43 := ⟨1, rfl, Or.inr rfl, rfl⟩
theorem yl4_0 : xAt kT4 0 (.aload_n 0) 1 := ⟨1, rfl, Or.inr rfl, rfl⟩
theorem yl4_1 : xAt kT4 1 (.getfield 9) 4 := ⟨3, rfl, Or.inr rfl, rfl⟩
theorem yl4_4 : xAt kT4 4 (.iload_n 1) 5 := ⟨1, rfl, Or.inr rfl, rfl⟩
theorem yl4_5 : xAt kT4 5 (.aaload) 6 := ⟨1, rfl, Or.inr rfl, rfl⟩
theorem yl4_6 : xAt kT4 6 (.areturn) 7 := ⟨1, rfl, Or.inr rfl, rfl⟩
theorem yl5_0 : xAt kT5 0 (.aload_n 0) 1 := ⟨1, rfl, Or.inr rfl, rfl⟩
theorem yl5_1 : xAt kT5 1 (.dup) 2 := ⟨1, rfl, Or.inr rfl, rfl⟩
theorem yl5_2 : xAt kT5 2 (.getfield 63) 5 := ⟨3, rfl, Or.inr rfl, rfl⟩
theorem yl5_5 : xAt kT5 5 (.iconst 1) 6 := ⟨1, rfl, Or.inr rfl, rfl⟩
theorem yl5_6 : xAt kT5 6 (.iadd) 7 := ⟨1, rfl, Or.inr rfl, rfl⟩
theorem yl5_7 : xAt kT5 7 (.putfield 63) 10 := ⟨3, rfl, Or.inr rfl, rfl⟩
theorem yl5_10 : xAt kT5 10 (.aload_n 0) 11 := ⟨1, rfl, Or.inr rfl, rfl⟩
theorem yl5_11 : xAt kT5 11 (.getfield 48) 14 := ⟨3, rfl, Or.inr rfl, rfl⟩
theorem yl5_14 : xAt kT5 14 (.iconst 1) 15 := ⟨1, rfl, Or.inr rfl, rfl⟩
theorem yl5_15 : xAt kT5 15 (.isub) 16 := ⟨1, rfl, Or.inr rfl, rfl⟩
theorem yl5_16 : xAt kT5 16 (.dup) 17 := ⟨1, rfl, Or.inr rfl, rfl⟩
theorem yl5_17 : xAt kT5 17 (.istore_n 3) 18 := ⟨1, rfl, Or.inr rfl, rfl⟩
theorem yl5_18 : xAt kT5 18 (.iload_n 2) 19 := ⟨1, rfl, Or.inr rfl, rfl⟩
theorem yl5_19 : xAt kT5 19 (.if_icmp .le 15) 22 := ⟨3, rfl, Or.inr rfl, rfl⟩
theorem yl5_22 : xAt kT5 22 (.aload_n 1) 23 := ⟨1, rfl, Or.inr rfl, rfl⟩
theorem yl5_23 : xAt kT5 23 (.iload_n 2) 24 := ⟨1, rfl, Or.inr rfl, rfl⟩
theorem yl5_24 : xAt kT5 24 (.iconst 1) 25 := ⟨1, rfl, Or.inr rfl, rfl⟩
theorem yl5_25 : xAt kT5 25 (.iadd) 26 := ⟨1, rfl, Or.inr rfl, rfl⟩
theorem yl5_26 : xAt kT5 26 (.aload_n 1) 27 := ⟨1, rfl, Or.inr rfl, rfl⟩
theorem yl5_27 : xAt kT5 27 (.iload_n 2) 28 := ⟨1, rfl, Or.inr rfl, rfl⟩
theorem yl5_28 : xAt kT5 28 (.iload_n 3) 29 := ⟨1, rfl, Or.inr rfl, rfl⟩
theorem yl5_29 : xAt kT5 29 (.iload_n 2) 30 := ⟨1, rfl, Or.inr rfl, rfl⟩
theorem yl5_30 : xAt kT5 30 (.isub) 31 := ⟨1, rfl, Or.inr rfl, rfl⟩
theorem yl5_31 : xAt kT5 31 (.invokestatic 112) 34 := ⟨3, rfl, Or.inr rfl, rfl⟩
theorem yl5_34 : xAt kT5 34 (.aload_n 1) 35 := ⟨1, rfl, Or.inr rfl, rfl⟩
theorem yl5_35 : xAt kT5 35 (.aload_n 0) 36 := ⟨1, rfl, Or.inr rfl, rfl⟩
theorem yl5_36 : xAt kT5 36 (.iload_n 3) 37 := ⟨1, rfl, Or.inr rfl, rfl⟩
theorem yl5_37 : xAt kT5 37 (.dup_x1) 38 := ⟨1, rfl, Or.inr rfl, rfl⟩
theorem yl5_38 : xAt kT5 38 (.putfield 48) 41 := ⟨3, rfl, Or.inr rfl, rfl⟩
theorem yl5_41 : xAt kT5 41 (.aconst_null) 42 := ⟨1, rfl, Or.inr rfl, rfl⟩
theorem yl5_42 : xAt kT5 42 (.aastore) 43 := ⟨1, rfl, Or.inr rfl, rfl⟩
theorem yl5_43 : xAt kT5 43 (.return_) 44 := ⟨1, rfl, Or.inr rfl, rfl⟩
theorem yl6_0 : xAt kT6 0 (.iload_n 1) 1 := ⟨1, rfl, Or.inr rfl, rfl⟩
theorem yl6_1 : xAt kT6 1 (.aload_n 0) 2 := ⟨1, rfl, Or.inr rfl, rfl⟩
theorem yl6_2 : xAt kT6 2 (.getfield 48) 5 := ⟨3, rfl, Or.inr rfl, rfl⟩
theorem yl6_5 : xAt kT6 5 (.invokestatic 118) 8 := ⟨3, rfl, Or.inr rfl, rfl⟩
theorem yl6_8 : xAt kT6 8 (.pop) 9 := ⟨1, rfl, Or.inr rfl, rfl⟩
theorem yl6_9 : xAt kT6 9 (.aload_n 0) 10 := ⟨1, rfl, Or.inr rfl, rfl⟩
theorem yl6_10 : xAt kT6 10 (.iload_n 1) 11 := ⟨1, rfl, Or.inr rfl, rfl⟩
theorem yl6_11 : xAt kT6 11 (.invokevirtual 123) 14 := ⟨3, rfl, Or.inr rfl, rfl⟩
theorem yl6_14 : xAt kT6 14 (.areturn) 15 := ⟨1, rfl, Or.inr rfl, rfl⟩
theorem yl7_0 : xAt kT7 0 (.aload_n 0) 1 := ⟨1, rfl, Or.inr rfl, rfl⟩
theorem yl7_1 : xAt kT7 1 (.getfield 9) 4 := ⟨3, rfl, Or.inr rfl, rfl⟩
theorem yl7_4 : xAt kT7 4 (.arraylength) 5 := ⟨1, rfl, Or.inr rfl, rfl⟩
theorem yl7_5 : xAt kT7 5 (.istore_n 2) 6 := ⟨1, rfl, Or.inr rfl, rfl⟩
theorem yl7_6 : xAt kT7 6 (.iload_n 2) 7 := ⟨1, rfl, Or.inr rfl, rfl⟩
theorem yl7_7 : xAt kT7 7 (.ifCond .gt 13) 10 := ⟨3, rfl, Or.inr rfl, rfl⟩
theorem yl7_10 : xAt kT7 10 (.aload_n 0) 11 := ⟨1, rfl, Or.inr rfl, rfl⟩
theorem yl7_11 : xAt kT7 11 (.getfield 9) 14 := ⟨3, rfl, Or.inr rfl, rfl⟩
theorem yl7_14 : xAt kT7 14 (.getstatic 39) 17 := ⟨3, rfl, Or.inr rfl, rfl⟩
theorem yl7_17 : xAt kT7 17 (.if_acmp .eq 28) 20 := ⟨3, rfl, Or.inr rfl, rfl⟩
theorem yl7_20 : xAt kT7 20 (.iload_n 2) 21 := ⟨1, rfl, Or.inr rfl, rfl⟩
theorem yl7_21 : xAt kT7 21 (.iload_n 1) 22 := ⟨1, rfl, Or.inr rfl, rfl⟩
theorem yl7_22 : xAt kT7 22 (.iload_n 2) 23 := ⟨1, rfl, Or.inr rfl, rfl⟩
theorem yl7_23 : xAt kT7 23 (.isub) 24 := ⟨1, rfl, Or.inr rfl, rfl⟩
theorem yl7_24 : xAt kT7 24 (.iload_n 2) 25 := ⟨1, rfl, Or.inr rfl, rfl⟩
theorem yl7_25 : xAt kT7 25 (.iconst 1) 26 := ⟨1, rfl, Or.inr rfl, rfl⟩
theorem yl7_26 : xAt kT7 26 (.ishr) 27 := ⟨1, rfl, Or.inr rfl, rfl⟩
theorem yl7_27 : xAt kT7 27 (.invokestatic 73) 30 := ⟨3, rfl, Or.inr rfl, rfl⟩
theorem yl7_30 : xAt kT7 30 (.istore_n 3) 31 := ⟨1, rfl, Or.inr rfl, rfl⟩
theorem yl7_31 : xAt kT7 31 (.aload_n 0) 32 := ⟨1, rfl, Or.inr rfl, rfl⟩
theorem yl7_32 : xAt kT7 32 (.aload_n 0) 33 := ⟨1, rfl, Or.inr rfl, rfl⟩
theorem yl7_33 : xAt kT7 33 (.getfield 9) 36 := ⟨3, rfl, Or.inr rfl, rfl⟩
theorem yl7_36 : xAt kT7 36 (.iload_n 3) 37 := ⟨1, rfl, Or.inr rfl, rfl⟩
theorem yl7_37 : xAt kT7 37 (.invokestatic 66) 40 := ⟨3, rfl, Or.inr rfl, rfl⟩
theorem yl7_40 : xAt kT7 40 (.dup_x1) 41 := ⟨1, rfl, Or.inr rfl, rfl⟩
theorem yl7_41 : xAt kT7 41 (.putfield 9) 44 := ⟨3, rfl, Or.inr rfl, rfl⟩
theorem yl7_44 : xAt kT7 44 (.areturn) 45 := ⟨1, rfl, Or.inr rfl, rfl⟩
theorem yl7_45 : xAt kT7 45 (.aload_n 0) 46 := ⟨1, rfl, Or.inr rfl, rfl⟩
theorem yl7_46 : xAt kT7 46 (.bipush 10) 48 := ⟨2, rfl, Or.inr rfl, rfl⟩
theorem yl7_48 : xAt kT7 48 (.iload_n 1) 49 := ⟨1, rfl, Or.inr rfl, rfl⟩
theorem yl7_49 : xAt kT7 49 (.invokestatic 79) 52 := ⟨3, rfl, Or.inr rfl, rfl⟩
theorem yl7_52 : xAt kT7 52 (.anewarray 7) 55 := ⟨3, rfl, Or.inr rfl, rfl⟩
theorem yl7_55 : xAt kT7 55 (.dup_x1) 56 := ⟨1, rfl, Or.inr rfl, rfl⟩
theorem yl7_56 : xAt kT7 56 (.putfield 9) 59 := ⟨3, rfl, Or.inr rfl, rfl⟩
theorem yl7_59 : xAt kT7 59 (.areturn) 60 := ⟨1, rfl, Or.inr rfl, rfl⟩
theorem yl8_0 : xAt kT8 0 (.aload_n 0) 1 := ⟨1, rfl, Or.inr rfl, rfl⟩
theorem yl8_1 : xAt kT8 1 (.aload_n 0) 2 := ⟨1, rfl, Or.inr rfl, rfl⟩
theorem yl8_2 : xAt kT8 2 (.getfield 48) 5 := ⟨3, rfl, Or.inr rfl, rfl⟩
theorem yl8_5 : xAt kT8 5 (.iconst 1) 6 := ⟨1, rfl, Or.inr rfl, rfl⟩
theorem yl8_6 : xAt kT8 6 (.iadd) 7 := ⟨1, rfl, Or.inr rfl, rfl⟩
theorem yl8_7 : xAt kT8 7 (.invokevirtual 69) 10 := ⟨3, rfl, Or.inr rfl, rfl⟩
theorem yl8_10 : xAt kT8 10 (.areturn) 11 := ⟨1, rfl, Or.inr rfl, rfl⟩
theorem yl9_0 : xAt kT9 0 (.aload_n 0) 1 := ⟨1, rfl, Or.inr rfl, rfl⟩
theorem yl9_1 : xAt kT9 1 (.invokespecial 1) 4 := ⟨3, rfl, Or.inr rfl, rfl⟩
theorem yl9_4 : xAt kT9 4 (.aload_n 0) 5 := ⟨1, rfl, Or.inr rfl, rfl⟩
theorem yl9_5 : xAt kT9 5 (.getstatic 39) 8 := ⟨3, rfl, Or.inr rfl, rfl⟩
theorem yl9_8 : xAt kT9 8 (.putfield 9) 11 := ⟨3, rfl, Or.inr rfl, rfl⟩
theorem yl9_11 : xAt kT9 11 (.return_) 12 := ⟨1, rfl, Or.inr rfl, rfl⟩
theorem yl10_0 : xAt kT10 0 (.aload_n 0) 1 := ⟨1, rfl, Or.inr rfl, rfl⟩
theorem yl10_1 : xAt kT10 1 (.getfield 48) 4 := ⟨3, rfl, Or.inr rfl, rfl⟩
theorem yl10_4 : xAt kT10 4 (.ifCond .ne 7) 7 := ⟨3, rfl, Or.inr rfl, rfl⟩
theorem yl10_7 : xAt kT10 7 (.iconst 1) 8 := ⟨1, rfl, Or.inr rfl, rfl⟩
theorem yl10_8 : xAt kT10 8 (.goto 4) 11 := ⟨3, rfl, Or.inr rfl, rfl⟩
theorem yl10_11 : xAt kT10 11 (.iconst 0) 12 := ⟨1, rfl, Or.inr rfl, rfl⟩
theorem yl10_12 : xAt kT10 12 (.ireturn) 13 := ⟨1, rfl, Or.inr rfl, rfl⟩
theorem yl12_0 : xAt kT12 0 (.iload_n 1) 1 := ⟨1, rfl, Or.inr rfl, rfl⟩
theorem yl12_1 : xAt kT12 1 (.aload_n 0) 2 := ⟨1, rfl, Or.inr rfl, rfl⟩
theorem yl12_2 : xAt kT12 2 (.getfield 48) 5 := ⟨3, rfl, Or.inr rfl, rfl⟩
theorem yl12_5 : xAt kT12 5 (.if_icmp .gt 7) 8 := ⟨3, rfl, Or.inr rfl, rfl⟩
theorem yl12_8 : xAt kT12 8 (.iload_n 1) 9 := ⟨1, rfl, Or.inr rfl, rfl⟩
theorem yl12_9 : xAt kT12 9 (.ifCond .ge 16) 12 := ⟨3, rfl, Or.inr rfl, rfl⟩
theorem yl12_12 : xAt kT12 12 (.new 187) 15 := ⟨3, rfl, Or.inr rfl, rfl⟩
theorem yl12_15 : xAt kT12 15 (.dup) 16 := ⟨1, rfl, Or.inr rfl, rfl⟩
theorem yl12_16 : xAt kT12 16 (.aload_n 0) 17 := ⟨1, rfl, Or.inr rfl, rfl⟩
theorem yl12_17 : xAt kT12 17 (.iload_n 1) 18 := ⟨1, rfl, Or.inr rfl, rfl⟩
theorem yl12_18 : xAt kT12 18 (.invokevirtual 198) 21 := ⟨3, rfl, Or.inr rfl, rfl⟩
theorem yl12_21 : xAt kT12 21 (.invokespecial 193) 24 := ⟨3, rfl, Or.inr rfl, rfl⟩
theorem yl12_24 : xAt kT12 24 (.athrow) 25 := ⟨1, rfl, Or.inr rfl, rfl⟩
theorem yl12_25 : xAt kT12 25 (.return_) 26 := ⟨1, rfl, Or.inr rfl, rfl⟩
theorem yl13_0 : xAt kT13 0 (.iload_n 1) 1 := ⟨1, rfl, Or.inr rfl, rfl⟩
theorem yl13_1 : xAt kT13 1 (.aload_n 0) 2 := ⟨1, rfl, Or.inr rfl, rfl⟩
theorem yl13_2 : xAt kT13 2 (.getfield 48) 5 := ⟨3, rfl, Or.inr rfl, rfl⟩
theorem yl13_5 : xAt kT13 5 (.invokestatic 118) 8 := ⟨3, rfl, Or.inr rfl, rfl⟩
theorem yl13_8 : xAt kT13 8 (.pop) 9 := ⟨1, rfl, Or.inr rfl, rfl⟩
theorem yl13_9 : xAt kT13 9 (.aload_n 0) 10 := ⟨1, rfl, Or.inr rfl, rfl⟩
theorem yl13_10 : xAt kT13 10 (.getfield 9) 13 := ⟨3, rfl, Or.inr rfl, rfl⟩
theorem yl13_13 : xAt kT13 13 (.astore_n 2) 14 := ⟨1, rfl, Or.inr rfl, rfl⟩
theorem yl13_14 : xAt kT13 14 (.aload_n 2) 15 := ⟨1, rfl, Or.inr rfl, rfl⟩
theorem yl13_15 : xAt kT13 15 (.iload_n 1) 16 := ⟨1, rfl, Or.inr rfl, rfl⟩
theorem yl13_16 : xAt kT13 16 (.aaload) 17 := ⟨1, rfl, Or.inr rfl, rfl⟩
theorem yl13_17 : xAt kT13 17 (.astore_n 3) 18 := ⟨1, rfl, Or.inr rfl, rfl⟩
theorem yl13_18 : xAt kT13 18 (.aload_n 0) 19 := ⟨1, rfl, Or.inr rfl, rfl⟩
theorem yl13_19 : xAt kT13 19 (.aload_n 2) 20 := ⟨1, rfl, Or.inr rfl, rfl⟩
theorem yl13_20 : xAt kT13 20 (.iload_n 1) 21 := ⟨1, rfl, Or.inr rfl, rfl⟩
theorem yl13_21 : xAt kT13 21 (.invokevirtual 144) 24 := ⟨3, rfl, Or.inr rfl, rfl⟩
theorem yl13_24 : xAt kT13 24 (.aload_n 3) 25 := ⟨1, rfl, Or.inr rfl, rfl⟩
theorem yl13_25 : xAt kT13 25 (.areturn) 26 := ⟨1, rfl, Or.inr rfl, rfl⟩
theorem yl14_0 : xAt kT14 0 (.aload_n 0) 1 := ⟨1, rfl, Or.inr rfl, rfl⟩
theorem yl14_1 : xAt kT14 1 (.getfield 48) 4 := ⟨3, rfl, Or.inr rfl, rfl⟩
theorem yl14_4 : xAt kT14 4 (.ireturn) 5 := ⟨1, rfl, Or.inr rfl, rfl⟩
theorem yl389_0 : xAt kT389 0 (.aload_n 0) 1 := ⟨1, rfl, Or.inr rfl, rfl⟩
theorem yl389_1 : xAt kT389 1 (.iload_n 1) 2 := ⟨1, rfl, Or.inr rfl, rfl⟩
theorem yl389_2 : xAt kT389 2 (.aload_n 0) 3 := ⟨1, rfl, Or.inr rfl, rfl⟩
theorem yl389_3 : xAt kT389 3 (.invokevirtual 86) 6 := ⟨3, rfl, Or.inr rfl, rfl⟩
theorem yl389_6 : xAt kT389 6 (.invokestatic 300) 9 := ⟨3, rfl, Or.inr rfl, rfl⟩
theorem yl389_9 : xAt kT389 9 (.areturn) 10 := ⟨1, rfl, Or.inr rfl, rfl⟩
theorem yl391_0 : xAt kT391 0 (.aload_n 2) 1 := ⟨1, rfl, Or.inr rfl, rfl⟩
theorem yl391_1 : xAt kT391 1 (.ldc 110) 3 := ⟨2, rfl, Or.inr rfl, rfl⟩
theorem yl391_3 : xAt kT391 3 (.if_acmp .ne 10) 6 := ⟨3, rfl, Or.inr rfl, rfl⟩
theorem yl391_6 : xAt kT391 6 (.iload_n 1) 7 := ⟨1, rfl, Or.inr rfl, rfl⟩
theorem yl391_7 : xAt kT391 7 (.anewarray 2) 10 := ⟨3, rfl, Or.inr rfl, rfl⟩
theorem yl391_10 : xAt kT391 10 (.goto 14) 13 := ⟨3, rfl, Or.inr rfl, rfl⟩
theorem yl391_13 : xAt kT391 13 (.aload_n 2) 14 := ⟨1, rfl, Or.inr rfl, rfl⟩
theorem yl391_14 : xAt kT391 14 (.invokevirtual 90) 17 := ⟨3, rfl, Or.inr rfl, rfl⟩
theorem yl391_17 : xAt kT391 17 (.iload_n 1) 18 := ⟨1, rfl, Or.inr rfl, rfl⟩
theorem yl391_18 : xAt kT391 18 (.invokestatic 95) 21 := ⟨3, rfl, Or.inr rfl, rfl⟩
theorem yl391_21 : xAt kT391 21 (.checkcast 110) 24 := ⟨3, rfl, Or.inr rfl, rfl⟩
theorem yl391_24 : xAt kT391 24 (.astore_n 3) 25 := ⟨1, rfl, Or.inr rfl, rfl⟩
theorem yl391_25 : xAt kT391 25 (.aload_n 0) 26 := ⟨1, rfl, Or.inr rfl, rfl⟩
theorem yl391_26 : xAt kT391 26 (.iconst 0) 27 := ⟨1, rfl, Or.inr rfl, rfl⟩
theorem yl391_27 : xAt kT391 27 (.aload_n 3) 28 := ⟨1, rfl, Or.inr rfl, rfl⟩
theorem yl391_28 : xAt kT391 28 (.iconst 0) 29 := ⟨1, rfl, Or.inr rfl, rfl⟩
theorem yl391_29 : xAt kT391 29 (.aload_n 0) 30 := ⟨1, rfl, Or.inr rfl, rfl⟩
theorem yl391_30 : xAt kT391 30 (.arraylength) 31 := ⟨1, rfl, Or.inr rfl, rfl⟩
theorem yl391_31 : xAt kT391 31 (.iload_n 1) 32 := ⟨1, rfl, Or.inr rfl, rfl⟩
theorem yl391_32 : xAt kT391 32 (.invokestatic 304) 35 := ⟨3, rfl, Or.inr rfl, rfl⟩
theorem yl391_35 : xAt kT391 35 (.invokestatic 150) 38 := ⟨3, rfl, Or.inr rfl, rfl⟩
theorem yl391_38 : xAt kT391 38 (.aload_n 3) 39 := ⟨1, rfl, Or.inr rfl, rfl⟩
theorem yl391_39 : xAt kT391 39 (.areturn) 40 := ⟨1, rfl, Or.inr rfl, rfl⟩
theorem yl393_0 : xAt kT393 0 (.iconst 0) 1 := ⟨1, rfl, Or.inr rfl, rfl⟩
theorem yl393_1 : xAt kT393 1 (.istore_n 2) 2 := ⟨1, rfl, Or.inr rfl, rfl⟩
theorem yl393_2 : xAt kT393 2 (.aload_n 0) 3 := ⟨1, rfl, Or.inr rfl, rfl⟩
theorem yl393_3 : xAt kT393 3 (.arraylength) 4 := ⟨1, rfl, Or.inr rfl, rfl⟩
theorem yl393_4 : xAt kT393 4 (.istore_n 3) 5 := ⟨1, rfl, Or.inr rfl, rfl⟩
theorem yl393_5 : xAt kT393 5 (.iload_n 2) 6 := ⟨1, rfl, Or.inr rfl, rfl⟩
theorem yl393_6 : xAt kT393 6 (.iload_n 3) 7 := ⟨1, rfl, Or.inr rfl, rfl⟩
theorem yl393_7 : xAt kT393 7 (.if_icmp .ge 13) 10 := ⟨3, rfl, Or.inr rfl, rfl⟩
theorem yl393_10 : xAt kT393 10 (.aload_n 0) 11 := ⟨1, rfl, Or.inr rfl, rfl⟩
theorem yl393_11 : xAt kT393 11 (.iload_n 2) 12 := ⟨1, rfl, Or.inr rfl, rfl⟩
theorem yl393_12 : xAt kT393 12 (.iload_n 1) 13 := ⟨1, rfl, Or.inr rfl, rfl⟩
theorem yl393_13 : xAt kT393 13 (.iastore) 14 := ⟨1, rfl, Or.inr rfl, rfl⟩
theorem yl393_14 : xAt kT393 14 (.iinc 2 1) 17 := ⟨3, rfl, Or.inr rfl, rfl⟩
theorem yl393_17 : xAt kT393 17 (.goto (-12)) 20 := ⟨3, rfl, Or.inr rfl, rfl⟩
theorem yl393_20 : xAt kT393 20 (.return_) 21 := ⟨1, rfl, Or.inr rfl, rfl⟩
theorem yl394_0 : xAt kT394 0 (.aload_n 0) 1 := ⟨1, rfl, Or.inr rfl, rfl⟩
theorem yl394_1 : xAt kT394 1 (.arraylength) 2 := ⟨1, rfl, Or.inr rfl, rfl⟩
theorem yl394_2 : xAt kT394 2 (.iload_n 1) 3 := ⟨1, rfl, Or.inr rfl, rfl⟩
theorem yl394_3 : xAt kT394 3 (.iload_n 2) 4 := ⟨1, rfl, Or.inr rfl, rfl⟩
theorem yl394_4 : xAt kT394 4 (.invokestatic 13) 7 := ⟨3, rfl, Or.inr rfl, rfl⟩
theorem yl394_7 : xAt kT394 7 (.iload_n 1) 8 := ⟨1, rfl, Or.inr rfl, rfl⟩
theorem yl394_8 : xAt kT394 8 (.istore 4) 10 := ⟨2, rfl, Or.inr rfl, rfl⟩
theorem yl394_10 : xAt kT394 10 (.iload 4) 12 := ⟨2, rfl, Or.inr rfl, rfl⟩
theorem yl394_12 : xAt kT394 12 (.iload_n 2) 13 := ⟨1, rfl, Or.inr rfl, rfl⟩
theorem yl394_13 : xAt kT394 13 (.if_icmp .ge 14) 16 := ⟨3, rfl, Or.inr rfl, rfl⟩
theorem yl394_16 : xAt kT394 16 (.aload_n 0) 17 := ⟨1, rfl, Or.inr rfl, rfl⟩
theorem yl394_17 : xAt kT394 17 (.iload 4) 19 := ⟨2, rfl, Or.inr rfl, rfl⟩
theorem yl394_19 : xAt kT394 19 (.iload_n 3) 20 := ⟨1, rfl, Or.inr rfl, rfl⟩
theorem yl394_20 : xAt kT394 20 (.iastore) 21 := ⟨1, rfl, Or.inr rfl, rfl⟩
theorem yl394_21 : xAt kT394 21 (.iinc 4 1) 24 := ⟨3, rfl, Or.inr rfl, rfl⟩
theorem yl394_24 : xAt kT394 24 (.goto (-14)) 27 := ⟨3, rfl, Or.inr rfl, rfl⟩
theorem yl394_27 : xAt kT394 27 (.return_) 28 := ⟨1, rfl, Or.inr rfl, rfl⟩
theorem yl395_0 : xAt kT395 0 (.iload_n 1) 1 := ⟨1, rfl, Or.inr rfl, rfl⟩
theorem yl395_1 : xAt kT395 1 (.iload_n 2) 2 := ⟨1, rfl, Or.inr rfl, rfl⟩
theorem yl395_2 : xAt kT395 2 (.if_icmp .le 44) 5 := ⟨3, rfl, Or.inr rfl, rfl⟩
theorem yl395_5 : xAt kT395 5 (.new 43) 8 := ⟨3, rfl, Or.inr rfl, rfl⟩
theorem yl395_8 : xAt kT395 8 (.dup) 9 := ⟨1, rfl, Or.inr rfl, rfl⟩
theorem yl395_9 : xAt kT395 9 (.new 45) 12 := ⟨3, rfl, Or.inr rfl, rfl⟩
theorem yl395_12 : xAt kT395 12 (.dup) 13 := ⟨1, rfl, Or.inr rfl, rfl⟩
theorem yl395_13 : xAt kT395 13 (.invokespecial 47) 16 := ⟨3, rfl, Or.inr rfl, rfl⟩
theorem yl395_16 : xAt kT395 16 (.ldc 48) 18 := ⟨2, rfl, Or.inr rfl, rfl⟩
theorem yl395_18 : xAt kT395 18 (.invokevirtual 50) 21 := ⟨3, rfl, Or.inr rfl, rfl⟩
theorem yl395_21 : xAt kT395 21 (.iload_n 1) 22 := ⟨1, rfl, Or.inr rfl, rfl⟩
theorem yl395_22 : xAt kT395 22 (.invokevirtual 54) 25 := ⟨3, rfl, Or.inr rfl, rfl⟩
theorem yl395_25 : xAt kT395 25 (.ldc 57) 27 := ⟨2, rfl, Or.inr rfl, rfl⟩
theorem yl395_27 : xAt kT395 27 (.invokevirtual 50) 30 := ⟨3, rfl, Or.inr rfl, rfl⟩
theorem yl395_30 : xAt kT395 30 (.iload_n 2) 31 := ⟨1, rfl, Or.inr rfl, rfl⟩
theorem yl395_31 : xAt kT395 31 (.invokevirtual 54) 34 := ⟨3, rfl, Or.inr rfl, rfl⟩
theorem yl395_34 : xAt kT395 34 (.ldc 59) 36 := ⟨2, rfl, Or.inr rfl, rfl⟩
theorem yl395_36 : xAt kT395 36 (.invokevirtual 50) 39 := ⟨3, rfl, Or.inr rfl, rfl⟩
theorem yl395_39 : xAt kT395 39 (.invokevirtual 61) 42 := ⟨3, rfl, Or.inr rfl, rfl⟩
theorem yl395_42 : xAt kT395 42 (.invokespecial 65) 45 := ⟨3, rfl, Or.inr rfl, rfl⟩
theorem yl395_45 : xAt kT395 45 (.athrow) 46 := ⟨1, rfl, Or.inr rfl, rfl⟩
theorem yl395_46 : xAt kT395 46 (.iload_n 1) 47 := ⟨1, rfl, Or.inr rfl, rfl⟩
theorem yl395_47 : xAt kT395 47 (.ifCond .ge 12) 50 := ⟨3, rfl, Or.inr rfl, rfl⟩
theorem yl395_50 : xAt kT395 50 (.new 68) 53 := ⟨3, rfl, Or.inr rfl, rfl⟩
theorem yl395_53 : xAt kT395 53 (.dup) 54 := ⟨1, rfl, Or.inr rfl, rfl⟩
theorem yl395_54 : xAt kT395 54 (.iload_n 1) 55 := ⟨1, rfl, Or.inr rfl, rfl⟩
theorem yl395_55 : xAt kT395 55 (.invokespecial 70) 58 := ⟨3, rfl, Or.inr rfl, rfl⟩
theorem yl395_58 : xAt kT395 58 (.athrow) 59 := ⟨1, rfl, Or.inr rfl, rfl⟩
theorem yl395_59 : xAt kT395 59 (.iload_n 2) 60 := ⟨1, rfl, Or.inr rfl, rfl⟩
theorem yl395_60 : xAt kT395 60 (.iload_n 0) 61 := ⟨1, rfl, Or.inr rfl, rfl⟩
theorem yl395_61 : xAt kT395 61 (.if_icmp .le 12) 64 := ⟨3, rfl, Or.inr rfl, rfl⟩
theorem yl395_64 : xAt kT395 64 (.new 68) 67 := ⟨3, rfl, Or.inr rfl, rfl⟩
theorem yl395_67 : xAt kT395 67 (.dup) 68 := ⟨1, rfl, Or.inr rfl, rfl⟩
theorem yl395_68 : xAt kT395 68 (.iload_n 2) 69 := ⟨1, rfl, Or.inr rfl, rfl⟩
theorem yl395_69 : xAt kT395 69 (.invokespecial 70) 72 := ⟨3, rfl, Or.inr rfl, rfl⟩
theorem yl395_72 : xAt kT395 72 (.athrow) 73 := ⟨1, rfl, Or.inr rfl, rfl⟩
theorem yl395_73 : xAt kT395 73 (.return_) 74 := ⟨1, rfl, Or.inr rfl, rfl⟩
theorem yl401_0 : xAt kT401 0 (.aload_n 0) 1 := ⟨1, rfl, Or.inr rfl, rfl⟩
theorem yl401_1 : xAt kT401 1 (.invokespecial 1) 4 := ⟨3, rfl, Or.inr rfl, rfl⟩
theorem yl401_4 : xAt kT401 4 (.aload_n 0) 5 := ⟨1, rfl, Or.inr rfl, rfl⟩
theorem yl401_5 : xAt kT401 5 (.iconst 0) 6 := ⟨1, rfl, Or.inr rfl, rfl⟩
theorem yl401_6 : xAt kT401 6 (.putfield 7) 9 := ⟨3, rfl, Or.inr rfl, rfl⟩
theorem yl401_9 : xAt kT401 9 (.return_) 10 := ⟨1, rfl, Or.inr rfl, rfl⟩
theorem yl402_0 : xAt kT402 0 (.aload_n 0) 1 := ⟨1, rfl, Or.inr rfl, rfl⟩
theorem yl402_1 : xAt kT402 1 (.invokespecial 1) 4 := ⟨3, rfl, Or.inr rfl, rfl⟩
theorem yl402_4 : xAt kT402 4 (.return_) 5 := ⟨1, rfl, Or.inr rfl, rfl⟩
theorem yl403_0 : xAt kT403 0 (.iload_n 0) 1 := ⟨1, rfl, Or.inr rfl, rfl⟩
theorem yl403_1 : xAt kT403 1 (.iload_n 1) 2 := ⟨1, rfl, Or.inr rfl, rfl⟩
theorem yl403_2 : xAt kT403 2 (.aconst_null) 3 := ⟨1, rfl, Or.inr rfl, rfl⟩
theorem yl403_3 : xAt kT403 3 (.invokestatic 105) 6 := ⟨3, rfl, Or.inr rfl, rfl⟩
theorem yl403_6 : xAt kT403 6 (.ireturn) 7 := ⟨1, rfl, Or.inr rfl, rfl⟩
theorem yl406_0 : xAt kT406 0 (.iload_n 0) 1 := ⟨1, rfl, Or.inr rfl, rfl⟩
theorem yl406_1 : xAt kT406 1 (.ifCond .lt 8) 4 := ⟨3, rfl, Or.inr rfl, rfl⟩
theorem yl406_4 : xAt kT406 4 (.iload_n 0) 5 := ⟨1, rfl, Or.inr rfl, rfl⟩
theorem yl406_5 : xAt kT406 5 (.iload_n 1) 6 := ⟨1, rfl, Or.inr rfl, rfl⟩
theorem yl406_6 : xAt kT406 6 (.if_icmp .lt 10) 9 := ⟨3, rfl, Or.inr rfl, rfl⟩
theorem yl406_9 : xAt kT406 9 (.aload_n 2) 10 := ⟨1, rfl, Or.inr rfl, rfl⟩
theorem yl406_10 : xAt kT406 10 (.iload_n 0) 11 := ⟨1, rfl, Or.inr rfl, rfl⟩
theorem yl406_11 : xAt kT406 11 (.iload_n 1) 12 := ⟨1, rfl, Or.inr rfl, rfl⟩
theorem yl406_12 : xAt kT406 12 (.invokestatic 95) 15 := ⟨3, rfl, Or.inr rfl, rfl⟩
theorem yl406_15 : xAt kT406 15 (.athrow) 16 := ⟨1, rfl, Or.inr rfl, rfl⟩
theorem yl406_16 : xAt kT406 16 (.iload_n 0) 17 := ⟨1, rfl, Or.inr rfl, rfl⟩
theorem yl406_17 : xAt kT406 17 (.ireturn) 18 := ⟨1, rfl, Or.inr rfl, rfl⟩
theorem yl408_0 : xAt kT408 0 (.iload_n 0) 1 := ⟨1, rfl, Or.inr rfl, rfl⟩
theorem yl408_1 : xAt kT408 1 (.iload_n 1) 2 := ⟨1, rfl, Or.inr rfl, rfl⟩
theorem yl408_2 : xAt kT408 2 (.iload_n 2) 3 := ⟨1, rfl, Or.inr rfl, rfl⟩
theorem yl408_3 : xAt kT408 3 (.invokestatic 194) 6 := ⟨3, rfl, Or.inr rfl, rfl⟩
theorem yl408_6 : xAt kT408 6 (.iadd) 7 := ⟨1, rfl, Or.inr rfl, rfl⟩
theorem yl408_7 : xAt kT408 7 (.istore_n 3) 8 := ⟨1, rfl, Or.inr rfl, rfl⟩
theorem yl408_8 : xAt kT408 8 (.iconst 0) 9 := ⟨1, rfl, Or.inr rfl, rfl⟩
theorem yl408_9 : xAt kT408 9 (.iload_n 3) 10 := ⟨1, rfl, Or.inr rfl, rfl⟩
theorem yl408_10 : xAt kT408 10 (.if_icmp .ge 11) 13 := ⟨3, rfl, Or.inr rfl, rfl⟩
theorem yl408_13 : xAt kT408 13 (.iload_n 3) 14 := ⟨1, rfl, Or.inr rfl, rfl⟩
theorem yl408_14 : xAt kT408 14 (.ldc 200) 16 := ⟨2, rfl, Or.inr rfl, rfl⟩
theorem yl408_16 : xAt kT408 16 (.if_icmp .gt 5) 19 := ⟨3, rfl, Or.inr rfl, rfl⟩
theorem yl408_19 : xAt kT408 19 (.iload_n 3) 20 := ⟨1, rfl, Or.inr rfl, rfl⟩
theorem yl408_20 : xAt kT408 20 (.ireturn) 21 := ⟨1, rfl, Or.inr rfl, rfl⟩
theorem yl408_21 : xAt kT408 21 (.iload_n 0) 22 := ⟨1, rfl, Or.inr rfl, rfl⟩
theorem yl408_22 : xAt kT408 22 (.iload_n 1) 23 := ⟨1, rfl, Or.inr rfl, rfl⟩
theorem yl408_23 : xAt kT408 23 (.invokestatic 201) 26 := ⟨3, rfl, Or.inr rfl, rfl⟩
theorem yl408_26 : xAt kT408 26 (.ireturn) 27 := ⟨1, rfl, Or.inr rfl, rfl⟩
theorem ymr_3_1 : xmR 3 1 = some 401 := by decide +kernel
theorem ymr_3_66 : xmR 3 66 = some 389 := by decide +kernel
theorem ymr_3_69 : xmR 3 69 = some 7 := by decide +kernel
theorem ymr_3_73 : xmR 3 73 = some 408 := by decide +kernel
theorem ymr_3_79 : xmR 3 79 = some 396 := by decide +kernel
theorem ymr_3_118 : xmR 3 118 = some 403 := by decide +kernel
theorem ymr_3_123 : xmR 3 123 = some 4 := by decide +kernel
theorem ymr_3_129 : xmR 3 129 = some 8 := by decide +kernel
theorem ymr_3_131 : xmR 3 131 = some 0 := by decide +kernel
theorem ymr_3_135 : xmR 3 135 = some 12 := by decide +kernel
theorem ymr_3_144 : xmR 3 144 = some 5 := by decide +kernel
theorem ymr_3_198 : xmR 3 198 = some 11 := by decide +kernel
theorem ymr_18_13 : xmR 18 13 = some 395 := by decide +kernel
theorem ymr_18_300 : xmR 18 300 = some 391 := by decide +kernel
theorem ymr_18_304 : xmR 18 304 = some 397 := by decide +kernel
theorem ymr_18_339 : xmR 18 339 = some 387 := by decide +kernel
theorem ymr_18_343 : xmR 18 343 = some 386 := by decide +kernel
theorem ymr_21_1 : xmR 21 1 = some 402 := by decide +kernel
theorem ymr_23_105 : xmR 23 105 = some 406 := by decide +kernel
theorem ymr_25_194 : xmR 25 194 = some 396 := by decide +kernel
theorem ymr_25_201 : xmR 25 201 = some 407 := by decide +kernel
theorem yrf_3_9 : xfR 3 9 = some (3, 1) := by decide +kernel
theorem yrf_3_48 : xfR 3 48 = some (3, 2) := by decide +kernel
theorem yna_0 : xnargs 0 = 3 := by decide +kernel
theorem ywv_0 : xSe.contains 0 = true ∧ xIn.contains 0 = true := by decide +kernel
theorem ywc_0 : (xMn 0).cls = (xCl 3).1 := by decide +kernel
theorem ykk_0 : kkA 0 = kT0 := rfl
theorem ymo_0 : moA 0 = 3 := rfl
theorem yni_0 : decide ((xMn 0).name = "<init>") = false := by decide +kernel
set_option maxRecDepth 100000 in
theorem yxm_0 : xM 0 = some (cJx4a65c_add_72be8, 4, none, 3) := rfl
theorem yna_1 : xnargs 1 = 2 := by decide +kernel
theorem ywv_1 : xSe.contains 1 = true ∧ xIn.contains 1 = true := by decide +kernel
theorem ywc_1 : (xMn 1).cls = (xCl 3).1 := by decide +kernel
theorem ykk_1 : kkA 1 = kT1 := rfl
theorem ymo_1 : moA 1 = 3 := rfl
theorem yni_1 : decide ((xMn 1).name = "<init>") = false := by decide +kernel
set_option maxRecDepth 100000 in
theorem yxm_1 : xM 1 = some (cJx4a65c_add_7a177, 5, none, 2) := rfl
theorem yna_2 : xnargs 2 = 1 := by decide +kernel
theorem ywv_2 : xSe.contains 2 = true ∧ xIn.contains 2 = true := by decide +kernel
theorem ywc_2 : (xMn 2).cls = (xCl 3).1 := by decide +kernel
theorem ykk_2 : kkA 2 = kT2 := rfl
theorem ymo_2 : moA 2 = 3 := rfl
theorem yni_2 : decide ((xMn 2).name = "<init>") = false := by decide +kernel
set_option maxRecDepth 100000 in
theorem yxm_2 : xM 2 = some (cJx4a65c_add_9ea2d, 2, (some FieldType.boolean), 1) := rfl
theorem yna_3 : xnargs 3 = 0 := by decide +kernel
theorem ywv_3 : xSe.contains 3 = true ∧ xIn.contains 3 = true := by decide +kernel
theorem ywc_3 : (xMn 3).cls = (xCl 3).1 := by decide +kernel
theorem ykk_3 : kkA 3 = kT3 := rfl
theorem ymo_3 : moA 3 = 3 := rfl
theorem yni_3 : decide ((xMn 3).name = "<init>") = false := by decide +kernel
set_option maxRecDepth 100000 in
theorem yxm_3 : xM 3 = some (cJx4a65c_clear_da8c8, 4, none, 0) := rfl
theorem yna_4 : xnargs 4 = 1 := by decide +kernel
theorem ywv_4 : xSe.contains 4 = true ∧ xIn.contains 4 = true := by decide +kernel
theorem ywc_4 : (xMn 4).cls = (xCl 3).1 := by decide +kernel
theorem ykk_4 : kkA 4 = kT4 := rfl
theorem ymo_4 : moA 4 = 3 := rfl
theorem yni_4 : decide ((xMn 4).name = "<init>") = false := by decide +kernel
set_option maxRecDepth 100000 in
theorem yxm_4 : xM 4 = some (cJx4a65c_elementData_915e3, 2, (some (FieldType.object "java/lang/Object")), 1) := rfl
theorem yna_5 : xnargs 5 = 2 := by decide +kernel
theorem ywv_5 : xSe.contains 5 = true ∧ xIn.contains 5 = true := by decide +kernel
theorem ywc_5 : (xMn 5).cls = (xCl 3).1 := by decide +kernel
theorem ykk_5 : kkA 5 = kT5 := rfl
theorem ymo_5 : moA 5 = 3 := rfl
theorem yni_5 : decide ((xMn 5).name = "<init>") = false := by decide +kernel
set_option maxRecDepth 100000 in
theorem yxm_5 : xM 5 = some (cJx4a65c_fastRemove_b59b0, 4, none, 2) := rfl
theorem yna_6 : xnargs 6 = 1 := by decide +kernel
theorem ywv_6 : xSe.contains 6 = true ∧ xIn.contains 6 = true := by decide +kernel
theorem ywc_6 : (xMn 6).cls = (xCl 3).1 := by decide +kernel
theorem ykk_6 : kkA 6 = kT6 := rfl
theorem ymo_6 : moA 6 = 3 := rfl
theorem yni_6 : decide ((xMn 6).name = "<init>") = false := by decide +kernel
set_option maxRecDepth 100000 in
theorem yxm_6 : xM 6 = some (cJx4a65c_get_915e3, 2, (some (FieldType.object "java/lang/Object")), 1) := rfl
theorem yna_7 : xnargs 7 = 1 := by decide +kernel
theorem ywv_7 : xSe.contains 7 = true ∧ xIn.contains 7 = true := by decide +kernel
theorem ywc_7 : (xMn 7).cls = (xCl 3).1 := by decide +kernel
theorem ykk_7 : kkA 7 = kT7 := rfl
theorem ymo_7 : moA 7 = 3 := rfl
theorem yni_7 : decide ((xMn 7).name = "<init>") = false := by decide +kernel
set_option maxRecDepth 100000 in
theorem yxm_7 : xM 7 = some (cJx4a65c_grow_92f84, 4, (some (FieldType.array (FieldType.object "java/lang/Object"))), 1) := rfl
theorem yna_8 : xnargs 8 = 0 := by decide +kernel
theorem ywv_8 : xSe.contains 8 = true ∧ xIn.contains 8 = true := by decide +kernel
theorem ywc_8 : (xMn 8).cls = (xCl 3).1 := by decide +kernel
theorem ykk_8 : kkA 8 = kT8 := rfl
theorem ymo_8 : moA 8 = 3 := rfl
theorem yni_8 : decide ((xMn 8).name = "<init>") = false := by decide +kernel
set_option maxRecDepth 100000 in
theorem yxm_8 : xM 8 = some (cJx4a65c_grow_d5877, 1, (some (FieldType.array (FieldType.object "java/lang/Object"))), 0) := rfl
theorem yna_9 : xnargs 9 = 0 := by decide +kernel
theorem ywi_9 : xIn.contains 9 = true ∧ (xMn 9).name = "<init>" ∧ xnoret 9 = true := by decide +kernel
theorem ykk_9 : kkA 9 = kT9 := rfl
theorem ymo_9 : moA 9 = 3 := rfl
theorem yni_9 : decide ((xMn 9).name = "<init>") = true := by decide +kernel
set_option maxRecDepth 100000 in
theorem yxm_9 : xM 9 = some (cJx4a65c_init_da8c8, 1, none, 0) := rfl
theorem yna_10 : xnargs 10 = 0 := by decide +kernel
theorem ywv_10 : xSe.contains 10 = true ∧ xIn.contains 10 = true := by decide +kernel
theorem ywc_10 : (xMn 10).cls = (xCl 3).1 := by decide +kernel
theorem ykk_10 : kkA 10 = kT10 := rfl
theorem ymo_10 : moA 10 = 3 := rfl
theorem yni_10 : decide ((xMn 10).name = "<init>") = false := by decide +kernel
set_option maxRecDepth 100000 in
theorem yxm_10 : xM 10 = some (cJx4a65c_isEmpty_aae02, 1, (some FieldType.boolean), 0) := rfl
theorem yna_12 : xnargs 12 = 1 := by decide +kernel
theorem ywv_12 : xSe.contains 12 = true ∧ xIn.contains 12 = true := by decide +kernel
theorem ywc_12 : (xMn 12).cls = (xCl 3).1 := by decide +kernel
theorem ykk_12 : kkA 12 = kT12 := rfl
theorem ymo_12 : moA 12 = 3 := rfl
theorem yni_12 : decide ((xMn 12).name = "<init>") = false := by decide +kernel
set_option maxRecDepth 100000 in
theorem yxm_12 : xM 12 = some (cJx4a65c_rangeCheckForAdd_d00df, 2, none, 1) := rfl
theorem yna_13 : xnargs 13 = 1 := by decide +kernel
theorem ywv_13 : xSe.contains 13 = true ∧ xIn.contains 13 = true := by decide +kernel
theorem ywc_13 : (xMn 13).cls = (xCl 3).1 := by decide +kernel
theorem ykk_13 : kkA 13 = kT13 := rfl
theorem ymo_13 : moA 13 = 3 := rfl
theorem yni_13 : decide ((xMn 13).name = "<init>") = false := by decide +kernel
set_option maxRecDepth 100000 in
theorem yxm_13 : xM 13 = some (cJx4a65c_remove_915e3, 4, (some (FieldType.object "java/lang/Object")), 1) := rfl
theorem yna_14 : xnargs 14 = 0 := by decide +kernel
theorem ywv_14 : xSe.contains 14 = true ∧ xIn.contains 14 = true := by decide +kernel
theorem ywc_14 : (xMn 14).cls = (xCl 3).1 := by decide +kernel
theorem ykk_14 : kkA 14 = kT14 := rfl
theorem ymo_14 : moA 14 = 3 := rfl
theorem yni_14 : decide ((xMn 14).name = "<init>") = false := by decide +kernel
set_option maxRecDepth 100000 in
theorem yxm_14 : xM 14 = some (cJx4a65c_size_8abf5, 1, (some FieldType.int), 0) := rfl
theorem yna_389 : xnargs 389 = 2 := by decide +kernel
theorem ymm_389 : ¬ 389 = xMax ∧ ¬ 389 = xMin := by decide
theorem yws_389 : xSt.contains 389 = true := by decide +kernel
theorem ykk_389 : kkA 389 = kT389 := rfl
theorem ymo_389 : moA 389 = 18 := rfl
theorem yni_389 : decide ((xMn 389).name = "<init>") = false := by decide +kernel
set_option maxRecDepth 100000 in
theorem yxm_389 : xM 389 = some (cJ7_copyOf_1904c, 2, (some (FieldType.array (FieldType.object "java/lang/Object"))), 2) := rfl
theorem yna_391 : xnargs 391 = 3 := by decide +kernel
theorem ymm_391 : ¬ 391 = xMax ∧ ¬ 391 = xMin := by decide
theorem yws_391 : xSt.contains 391 = true := by decide +kernel
theorem ykk_391 : kkA 391 = kT391 := rfl
theorem ymo_391 : moA 391 = 18 := rfl
theorem yni_391 : decide ((xMn 391).name = "<init>") = false := by decide +kernel
set_option maxRecDepth 100000 in
theorem yxm_391 : xM 391 = some (cJ7_copyOf_6403c, 4, (some (FieldType.array (FieldType.object "java/lang/Object"))), 3) := rfl
theorem yna_393 : xnargs 393 = 2 := by decide +kernel
theorem ymm_393 : ¬ 393 = xMax ∧ ¬ 393 = xMin := by decide
theorem yws_393 : xSt.contains 393 = true := by decide +kernel
theorem ykk_393 : kkA 393 = kT393 := rfl
theorem ymo_393 : moA 393 = 18 := rfl
theorem yni_393 : decide ((xMn 393).name = "<init>") = false := by decide +kernel
set_option maxRecDepth 100000 in
theorem yxm_393 : xM 393 = some (cJ7_fill_53178, 4, none, 2) := rfl
theorem yna_394 : xnargs 394 = 4 := by decide +kernel
theorem ymm_394 : ¬ 394 = xMax ∧ ¬ 394 = xMin := by decide
theorem yws_394 : xSt.contains 394 = true := by decide +kernel
theorem ykk_394 : kkA 394 = kT394 := rfl
theorem ymo_394 : moA 394 = 18 := rfl
theorem yni_394 : decide ((xMn 394).name = "<init>") = false := by decide +kernel
set_option maxRecDepth 100000 in
theorem yxm_394 : xM 394 = some (cJ7_fill_fda19, 5, none, 4) := rfl
theorem yna_395 : xnargs 395 = 3 := by decide +kernel
theorem ymm_395 : ¬ 395 = xMax ∧ ¬ 395 = xMin := by decide
theorem yws_395 : xSt.contains 395 = true := by decide +kernel
theorem ykk_395 : kkA 395 = kT395 := rfl
theorem ymo_395 : moA 395 = 18 := rfl
theorem yni_395 : decide ((xMn 395).name = "<init>") = false := by decide +kernel
set_option maxRecDepth 100000 in
theorem yxm_395 : xM 395 = some (cJ7_rangeCheck_23922, 3, none, 3) := rfl
theorem yna_401 : xnargs 401 = 0 := by decide +kernel
theorem ywi_401 : xIn.contains 401 = true ∧ (xMn 401).name = "<init>" ∧ xnoret 401 = true := by decide +kernel
theorem ykk_401 : kkA 401 = kT401 := rfl
theorem ymo_401 : moA 401 = 21 := rfl
theorem yni_401 : decide ((xMn 401).name = "<init>") = true := by decide +kernel
set_option maxRecDepth 100000 in
theorem yxm_401 : xM 401 = some (cJxc12de_init_da8c8, 1, none, 0) := rfl
theorem yna_402 : xnargs 402 = 0 := by decide +kernel
theorem ywi_402 : xIn.contains 402 = true ∧ (xMn 402).name = "<init>" ∧ xnoret 402 = true := by decide +kernel
theorem ykk_402 : kkA 402 = kT402 := rfl
theorem ymo_402 : moA 402 = 22 := rfl
theorem yni_402 : decide ((xMn 402).name = "<init>") = true := by decide +kernel
set_option maxRecDepth 100000 in
theorem yxm_402 : xM 402 = some (cJxa1e45_init_da8c8, 1, none, 0) := rfl
theorem yna_403 : xnargs 403 = 2 := by decide +kernel
theorem ymm_403 : ¬ 403 = xMax ∧ ¬ 403 = xMin := by decide
theorem yws_403 : xSt.contains 403 = true := by decide +kernel
theorem ykk_403 : kkA 403 = kT403 := rfl
theorem ymo_403 : moA 403 = 23 := rfl
theorem yni_403 : decide ((xMn 403).name = "<init>") = false := by decide +kernel
set_option maxRecDepth 100000 in
theorem yxm_403 : xM 403 = some (cJ15_checkIndex_7cf53, 2, (some FieldType.int), 2) := rfl
theorem yna_406 : xnargs 406 = 3 := by decide +kernel
theorem ymm_406 : ¬ 406 = xMax ∧ ¬ 406 = xMin := by decide
theorem yws_406 : xSt.contains 406 = true := by decide +kernel
theorem ykk_406 : kkA 406 = kT406 := rfl
theorem ymo_406 : moA 406 = 24 := rfl
theorem yni_406 : decide ((xMn 406).name = "<init>") = false := by decide +kernel
set_option maxRecDepth 100000 in
theorem yxm_406 : xM 406 = some (cJ3_checkIndex_8e157, 3, (some FieldType.int), 3) := rfl
theorem yna_408 : xnargs 408 = 3 := by decide +kernel
theorem ymm_408 : ¬ 408 = xMax ∧ ¬ 408 = xMin := by decide
theorem yws_408 : xSt.contains 408 = true := by decide +kernel
theorem ykk_408 : kkA 408 = kT408 := rfl
theorem ymo_408 : moA 408 = 25 := rfl
theorem yni_408 : decide ((xMn 408).name = "<init>") = false := by decide +kernel
set_option maxRecDepth 100000 in
theorem yxm_408 : xM 408 = some (cJ8_newLength_cabcc, 4, (some FieldType.int), 3) := rfl
