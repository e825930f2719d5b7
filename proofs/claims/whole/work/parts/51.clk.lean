/-! printed by wip/whole/gen_cls.py: where an instruction stands -/
set_option maxRecDepth 100000 in
theorem lk63_0 : xAt kT63 0 (.iload_n 1) 1 := ⟨1, rfl, Or.inr rfl, rfl⟩
set_option maxRecDepth 100000 in
theorem lk63_1 : xAt kT63 1 (.aload_n 0) 2 := ⟨1, rfl, Or.inr rfl, rfl⟩
set_option maxRecDepth 100000 in
theorem lk63_2 : xAt kT63 2 (.getfield 28) 5 := ⟨3, rfl, Or.inr rfl, rfl⟩
set_option maxRecDepth 100000 in
theorem lk63_5 : xAt kT63 5 (.isub) 6 := ⟨1, rfl, Or.inr rfl, rfl⟩
set_option maxRecDepth 100000 in
theorem lk63_6 : xAt kT63 6 (.iconst 1) 7 := ⟨1, rfl, Or.inr rfl, rfl⟩
set_option maxRecDepth 100000 in
theorem lk63_7 : xAt kT63 7 (.isub) 8 := ⟨1, rfl, Or.inr rfl, rfl⟩
set_option maxRecDepth 100000 in
theorem lk63_8 : xAt kT63 8 (.bipush 6) 10 := ⟨2, rfl, Or.inr rfl, rfl⟩
set_option maxRecDepth 100000 in
theorem lk63_10 : xAt kT63 10 (.imul) 11 := ⟨1, rfl, Or.inr rfl, rfl⟩
set_option maxRecDepth 100000 in
theorem lk63_11 : xAt kT63 11 (.ireturn) 12 := ⟨1, rfl, Or.inr rfl, rfl⟩
set_option maxRecDepth 100000 in
theorem lk70_0 : xAt kT70 0 (.iload_n 1) 1 := ⟨1, rfl, Or.inr rfl, rfl⟩
set_option maxRecDepth 100000 in
theorem lk70_1 : xAt kT70 1 (.aload_n 0) 2 := ⟨1, rfl, Or.inr rfl, rfl⟩
set_option maxRecDepth 100000 in
theorem lk70_2 : xAt kT70 2 (.getfield 34) 5 := ⟨3, rfl, Or.inr rfl, rfl⟩
set_option maxRecDepth 100000 in
theorem lk70_5 : xAt kT70 5 (.invokestatic 70) 8 := ⟨3, rfl, Or.inr rfl, rfl⟩
set_option maxRecDepth 100000 in
theorem lk70_8 : xAt kT70 8 (.aload_n 0) 9 := ⟨1, rfl, Or.inr rfl, rfl⟩
set_option maxRecDepth 100000 in
theorem lk70_9 : xAt kT70 9 (.getfield 28) 12 := ⟨3, rfl, Or.inr rfl, rfl⟩
set_option maxRecDepth 100000 in
theorem lk70_12 : xAt kT70 12 (.isub) 13 := ⟨1, rfl, Or.inr rfl, rfl⟩
set_option maxRecDepth 100000 in
theorem lk70_13 : xAt kT70 13 (.iconst 1) 14 := ⟨1, rfl, Or.inr rfl, rfl⟩
set_option maxRecDepth 100000 in
theorem lk70_14 : xAt kT70 14 (.isub) 15 := ⟨1, rfl, Or.inr rfl, rfl⟩
set_option maxRecDepth 100000 in
theorem lk70_15 : xAt kT70 15 (.istore_n 2) 16 := ⟨1, rfl, Or.inr rfl, rfl⟩
set_option maxRecDepth 100000 in
theorem lk70_16 : xAt kT70 16 (.iload_n 2) 17 := ⟨1, rfl, Or.inr rfl, rfl⟩
set_option maxRecDepth 100000 in
theorem lk70_17 : xAt kT70 17 (.ifCond .lt 24) 20 := ⟨3, rfl, Or.inr rfl, rfl⟩
set_option maxRecDepth 100000 in
theorem lk70_20 : xAt kT70 20 (.aload_n 0) 21 := ⟨1, rfl, Or.inr rfl, rfl⟩
set_option maxRecDepth 100000 in
theorem lk70_21 : xAt kT70 21 (.getfield 9) 24 := ⟨3, rfl, Or.inr rfl, rfl⟩
set_option maxRecDepth 100000 in
theorem lk70_24 : xAt kT70 24 (.iload_n 2) 25 := ⟨1, rfl, Or.inr rfl, rfl⟩
set_option maxRecDepth 100000 in
theorem lk70_25 : xAt kT70 25 (.bipush 6) 27 := ⟨2, rfl, Or.inr rfl, rfl⟩
set_option maxRecDepth 100000 in
theorem lk70_27 : xAt kT70 27 (.imul) 28 := ⟨1, rfl, Or.inr rfl, rfl⟩
set_option maxRecDepth 100000 in
theorem lk70_28 : xAt kT70 28 (.iconst 1) 29 := ⟨1, rfl, Or.inr rfl, rfl⟩
set_option maxRecDepth 100000 in
theorem lk70_29 : xAt kT70 29 (.iadd) 30 := ⟨1, rfl, Or.inr rfl, rfl⟩
set_option maxRecDepth 100000 in
theorem lk70_30 : xAt kT70 30 (.iaload) 31 := ⟨1, rfl, Or.inr rfl, rfl⟩
set_option maxRecDepth 100000 in
theorem lk70_31 : xAt kT70 31 (.iconst 1) 32 := ⟨1, rfl, Or.inr rfl, rfl⟩
set_option maxRecDepth 100000 in
theorem lk70_32 : xAt kT70 32 (.if_icmp .eq 9) 35 := ⟨3, rfl, Or.inr rfl, rfl⟩
set_option maxRecDepth 100000 in
theorem lk70_35 : xAt kT70 35 (.iinc 2 (-1)) 38 := ⟨3, rfl, Or.inr rfl, rfl⟩
set_option maxRecDepth 100000 in
theorem lk70_38 : xAt kT70 38 (.goto (-22)) 41 := ⟨3, rfl, Or.inr rfl, rfl⟩
set_option maxRecDepth 100000 in
theorem lk70_41 : xAt kT70 41 (.aload_n 0) 42 := ⟨1, rfl, Or.inr rfl, rfl⟩
set_option maxRecDepth 100000 in
theorem lk70_42 : xAt kT70 42 (.getfield 28) 45 := ⟨3, rfl, Or.inr rfl, rfl⟩
set_option maxRecDepth 100000 in
theorem lk70_45 : xAt kT70 45 (.iconst 1) 46 := ⟨1, rfl, Or.inr rfl, rfl⟩
set_option maxRecDepth 100000 in
theorem lk70_46 : xAt kT70 46 (.iadd) 47 := ⟨1, rfl, Or.inr rfl, rfl⟩
set_option maxRecDepth 100000 in
theorem lk70_47 : xAt kT70 47 (.iconst (-1)) 48 := ⟨1, rfl, Or.inr rfl, rfl⟩
set_option maxRecDepth 100000 in
theorem lk70_48 : xAt kT70 48 (.iload_n 2) 49 := ⟨1, rfl, Or.inr rfl, rfl⟩
set_option maxRecDepth 100000 in
theorem lk70_49 : xAt kT70 49 (.invokestatic 48) 52 := ⟨3, rfl, Or.inr rfl, rfl⟩
set_option maxRecDepth 100000 in
theorem lk70_52 : xAt kT70 52 (.iadd) 53 := ⟨1, rfl, Or.inr rfl, rfl⟩
set_option maxRecDepth 100000 in
theorem lk70_53 : xAt kT70 53 (.ireturn) 54 := ⟨1, rfl, Or.inr rfl, rfl⟩
set_option maxRecDepth 100000 in
theorem lk66_0 : xAt kT66 0 (.aload_n 0) 1 := ⟨1, rfl, Or.inr rfl, rfl⟩
set_option maxRecDepth 100000 in
theorem lk66_1 : xAt kT66 1 (.aload_n 0) 2 := ⟨1, rfl, Or.inr rfl, rfl⟩
set_option maxRecDepth 100000 in
theorem lk66_2 : xAt kT66 2 (.aload_n 0) 3 := ⟨1, rfl, Or.inr rfl, rfl⟩
set_option maxRecDepth 100000 in
theorem lk66_3 : xAt kT66 3 (.getfield 34) 6 := ⟨3, rfl, Or.inr rfl, rfl⟩
set_option maxRecDepth 100000 in
theorem lk66_6 : xAt kT66 6 (.invokevirtual 76) 9 := ⟨3, rfl, Or.inr rfl, rfl⟩
set_option maxRecDepth 100000 in
theorem lk66_9 : xAt kT66 9 (.putfield 67) 12 := ⟨3, rfl, Or.inr rfl, rfl⟩
set_option maxRecDepth 100000 in
theorem lk66_12 : xAt kT66 12 (.aload_n 0) 13 := ⟨1, rfl, Or.inr rfl, rfl⟩
set_option maxRecDepth 100000 in
theorem lk66_13 : xAt kT66 13 (.aload_n 0) 14 := ⟨1, rfl, Or.inr rfl, rfl⟩
set_option maxRecDepth 100000 in
theorem lk66_14 : xAt kT66 14 (.getfield 67) 17 := ⟨3, rfl, Or.inr rfl, rfl⟩
set_option maxRecDepth 100000 in
theorem lk66_17 : xAt kT66 17 (.aload_n 0) 18 := ⟨1, rfl, Or.inr rfl, rfl⟩
set_option maxRecDepth 100000 in
theorem lk66_18 : xAt kT66 18 (.getfield 28) 21 := ⟨3, rfl, Or.inr rfl, rfl⟩
set_option maxRecDepth 100000 in
theorem lk66_21 : xAt kT66 21 (.if_icmp .ne 10) 24 := ⟨3, rfl, Or.inr rfl, rfl⟩
set_option maxRecDepth 100000 in
theorem lk66_24 : xAt kT66 24 (.aload_n 0) 25 := ⟨1, rfl, Or.inr rfl, rfl⟩
set_option maxRecDepth 100000 in
theorem lk66_25 : xAt kT66 25 (.getfield 22) 28 := ⟨3, rfl, Or.inr rfl, rfl⟩
set_option maxRecDepth 100000 in
theorem lk66_28 : xAt kT66 28 (.goto 18) 31 := ⟨3, rfl, Or.inr rfl, rfl⟩
set_option maxRecDepth 100000 in
theorem lk66_31 : xAt kT66 31 (.aload_n 0) 32 := ⟨1, rfl, Or.inr rfl, rfl⟩
set_option maxRecDepth 100000 in
theorem lk66_32 : xAt kT66 32 (.getfield 9) 35 := ⟨3, rfl, Or.inr rfl, rfl⟩
set_option maxRecDepth 100000 in
theorem lk66_35 : xAt kT66 35 (.aload_n 0) 36 := ⟨1, rfl, Or.inr rfl, rfl⟩
set_option maxRecDepth 100000 in
theorem lk66_36 : xAt kT66 36 (.aload_n 0) 37 := ⟨1, rfl, Or.inr rfl, rfl⟩
set_option maxRecDepth 100000 in
theorem lk66_37 : xAt kT66 37 (.getfield 67) 40 := ⟨3, rfl, Or.inr rfl, rfl⟩
set_option maxRecDepth 100000 in
theorem lk66_40 : xAt kT66 40 (.invokevirtual 44) 43 := ⟨3, rfl, Or.inr rfl, rfl⟩
set_option maxRecDepth 100000 in
theorem lk66_43 : xAt kT66 43 (.iconst 3) 44 := ⟨1, rfl, Or.inr rfl, rfl⟩
set_option maxRecDepth 100000 in
theorem lk66_44 : xAt kT66 44 (.iadd) 45 := ⟨1, rfl, Or.inr rfl, rfl⟩
set_option maxRecDepth 100000 in
theorem lk66_45 : xAt kT66 45 (.iaload) 46 := ⟨1, rfl, Or.inr rfl, rfl⟩
set_option maxRecDepth 100000 in
theorem lk66_46 : xAt kT66 46 (.putfield 25) 49 := ⟨3, rfl, Or.inr rfl, rfl⟩
set_option maxRecDepth 100000 in
theorem lk66_49 : xAt kT66 49 (.return_) 50 := ⟨1, rfl, Or.inr rfl, rfl⟩
set_option maxRecDepth 100000 in
theorem lk64_0 : xAt kT64 0 (.aload_n 0) 1 := ⟨1, rfl, Or.inr rfl, rfl⟩
set_option maxRecDepth 100000 in
theorem lk64_1 : xAt kT64 1 (.iconst 0) 2 := ⟨1, rfl, Or.inr rfl, rfl⟩
set_option maxRecDepth 100000 in
theorem lk64_2 : xAt kT64 2 (.putfield 28) 5 := ⟨3, rfl, Or.inr rfl, rfl⟩
set_option maxRecDepth 100000 in
theorem lk64_5 : xAt kT64 5 (.aload_n 0) 6 := ⟨1, rfl, Or.inr rfl, rfl⟩
set_option maxRecDepth 100000 in
theorem lk64_6 : xAt kT64 6 (.iconst 0) 7 := ⟨1, rfl, Or.inr rfl, rfl⟩
set_option maxRecDepth 100000 in
theorem lk64_7 : xAt kT64 7 (.putfield 31) 10 := ⟨3, rfl, Or.inr rfl, rfl⟩
set_option maxRecDepth 100000 in
theorem lk64_10 : xAt kT64 10 (.aload_n 0) 11 := ⟨1, rfl, Or.inr rfl, rfl⟩
set_option maxRecDepth 100000 in
theorem lk64_11 : xAt kT64 11 (.aload_n 0) 12 := ⟨1, rfl, Or.inr rfl, rfl⟩
set_option maxRecDepth 100000 in
theorem lk64_12 : xAt kT64 12 (.getfield 18) 15 := ⟨3, rfl, Or.inr rfl, rfl⟩
set_option maxRecDepth 100000 in
theorem lk64_15 : xAt kT64 15 (.putfield 22) 18 := ⟨3, rfl, Or.inr rfl, rfl⟩
set_option maxRecDepth 100000 in
theorem lk64_18 : xAt kT64 18 (.aload_n 0) 19 := ⟨1, rfl, Or.inr rfl, rfl⟩
set_option maxRecDepth 100000 in
theorem lk64_19 : xAt kT64 19 (.iconst 0) 20 := ⟨1, rfl, Or.inr rfl, rfl⟩
set_option maxRecDepth 100000 in
theorem lk64_20 : xAt kT64 20 (.putfield 34) 23 := ⟨3, rfl, Or.inr rfl, rfl⟩
set_option maxRecDepth 100000 in
theorem lk64_23 : xAt kT64 23 (.aload_n 0) 24 := ⟨1, rfl, Or.inr rfl, rfl⟩
set_option maxRecDepth 100000 in
theorem lk64_24 : xAt kT64 24 (.invokevirtual 37) 27 := ⟨3, rfl, Or.inr rfl, rfl⟩
set_option maxRecDepth 100000 in
theorem lk64_27 : xAt kT64 27 (.return_) 28 := ⟨1, rfl, Or.inr rfl, rfl⟩
set_option maxRecDepth 100000 in
theorem lk65_0 : xAt kT65 0 (.aload_n 0) 1 := ⟨1, rfl, Or.inr rfl, rfl⟩
set_option maxRecDepth 100000 in
theorem lk65_1 : xAt kT65 1 (.aload_n 0) 2 := ⟨1, rfl, Or.inr rfl, rfl⟩
set_option maxRecDepth 100000 in
theorem lk65_2 : xAt kT65 2 (.getfield 28) 5 := ⟨3, rfl, Or.inr rfl, rfl⟩
set_option maxRecDepth 100000 in
theorem lk65_5 : xAt kT65 5 (.aload_n 0) 6 := ⟨1, rfl, Or.inr rfl, rfl⟩
set_option maxRecDepth 100000 in
theorem lk65_6 : xAt kT65 6 (.getfield 34) 9 := ⟨3, rfl, Or.inr rfl, rfl⟩
set_option maxRecDepth 100000 in
theorem lk65_9 : xAt kT65 9 (.iload_n 1) 10 := ⟨1, rfl, Or.inr rfl, rfl⟩
set_option maxRecDepth 100000 in
theorem lk65_10 : xAt kT65 10 (.iconst 1) 11 := ⟨1, rfl, Or.inr rfl, rfl⟩
set_option maxRecDepth 100000 in
theorem lk65_11 : xAt kT65 11 (.isub) 12 := ⟨1, rfl, Or.inr rfl, rfl⟩
set_option maxRecDepth 100000 in
theorem lk65_12 : xAt kT65 12 (.invokestatic 70) 15 := ⟨3, rfl, Or.inr rfl, rfl⟩
set_option maxRecDepth 100000 in
theorem lk65_15 : xAt kT65 15 (.invokestatic 48) 18 := ⟨3, rfl, Or.inr rfl, rfl⟩
set_option maxRecDepth 100000 in
theorem lk65_18 : xAt kT65 18 (.putfield 34) 21 := ⟨3, rfl, Or.inr rfl, rfl⟩
set_option maxRecDepth 100000 in
theorem lk65_21 : xAt kT65 21 (.aload_n 0) 22 := ⟨1, rfl, Or.inr rfl, rfl⟩
set_option maxRecDepth 100000 in
theorem lk65_22 : xAt kT65 22 (.aload_n 0) 23 := ⟨1, rfl, Or.inr rfl, rfl⟩
set_option maxRecDepth 100000 in
theorem lk65_23 : xAt kT65 23 (.getfield 73) 26 := ⟨3, rfl, Or.inr rfl, rfl⟩
set_option maxRecDepth 100000 in
theorem lk65_26 : xAt kT65 26 (.aload_n 0) 27 := ⟨1, rfl, Or.inr rfl, rfl⟩
set_option maxRecDepth 100000 in
theorem lk65_27 : xAt kT65 27 (.getfield 34) 30 := ⟨3, rfl, Or.inr rfl, rfl⟩
set_option maxRecDepth 100000 in
theorem lk65_30 : xAt kT65 30 (.invokestatic 70) 33 := ⟨3, rfl, Or.inr rfl, rfl⟩
set_option maxRecDepth 100000 in
theorem lk65_33 : xAt kT65 33 (.putfield 73) 36 := ⟨3, rfl, Or.inr rfl, rfl⟩
set_option maxRecDepth 100000 in
theorem lk65_36 : xAt kT65 36 (.aload_n 0) 37 := ⟨1, rfl, Or.inr rfl, rfl⟩
set_option maxRecDepth 100000 in
theorem lk65_37 : xAt kT65 37 (.invokevirtual 37) 40 := ⟨3, rfl, Or.inr rfl, rfl⟩
set_option maxRecDepth 100000 in
theorem lk65_40 : xAt kT65 40 (.return_) 41 := ⟨1, rfl, Or.inr rfl, rfl⟩
set_option maxRecDepth 100000 in
theorem lk67_0 : xAt kT67 0 (.iload_n 1) 1 := ⟨1, rfl, Or.inr rfl, rfl⟩
set_option maxRecDepth 100000 in
theorem lk67_1 : xAt kT67 1 (.aload_n 0) 2 := ⟨1, rfl, Or.inr rfl, rfl⟩
set_option maxRecDepth 100000 in
theorem lk67_2 : xAt kT67 2 (.getfield 28) 5 := ⟨3, rfl, Or.inr rfl, rfl⟩
set_option maxRecDepth 100000 in
theorem lk67_5 : xAt kT67 5 (.if_icmp .le 15) 8 := ⟨3, rfl, Or.inr rfl, rfl⟩
set_option maxRecDepth 100000 in
theorem lk67_8 : xAt kT67 8 (.iload_n 1) 9 := ⟨1, rfl, Or.inr rfl, rfl⟩
set_option maxRecDepth 100000 in
theorem lk67_9 : xAt kT67 9 (.aload_n 0) 10 := ⟨1, rfl, Or.inr rfl, rfl⟩
set_option maxRecDepth 100000 in
theorem lk67_10 : xAt kT67 10 (.getfield 34) 13 := ⟨3, rfl, Or.inr rfl, rfl⟩
set_option maxRecDepth 100000 in
theorem lk67_13 : xAt kT67 13 (.if_icmp .gt 7) 16 := ⟨3, rfl, Or.inr rfl, rfl⟩
set_option maxRecDepth 100000 in
theorem lk67_16 : xAt kT67 16 (.iconst 1) 17 := ⟨1, rfl, Or.inr rfl, rfl⟩
set_option maxRecDepth 100000 in
theorem lk67_17 : xAt kT67 17 (.goto 4) 20 := ⟨3, rfl, Or.inr rfl, rfl⟩
set_option maxRecDepth 100000 in
theorem lk67_20 : xAt kT67 20 (.iconst 0) 21 := ⟨1, rfl, Or.inr rfl, rfl⟩
set_option maxRecDepth 100000 in
theorem lk67_21 : xAt kT67 21 (.ireturn) 22 := ⟨1, rfl, Or.inr rfl, rfl⟩
set_option maxRecDepth 100000 in
theorem lk69_0 : xAt kT69 0 (.aload_n 0) 1 := ⟨1, rfl, Or.inr rfl, rfl⟩
set_option maxRecDepth 100000 in
theorem lk69_1 : xAt kT69 1 (.getfield 34) 4 := ⟨3, rfl, Or.inr rfl, rfl⟩
set_option maxRecDepth 100000 in
theorem lk69_4 : xAt kT69 4 (.aload_n 0) 5 := ⟨1, rfl, Or.inr rfl, rfl⟩
set_option maxRecDepth 100000 in
theorem lk69_5 : xAt kT69 5 (.getfield 28) 8 := ⟨3, rfl, Or.inr rfl, rfl⟩
set_option maxRecDepth 100000 in
theorem lk69_8 : xAt kT69 8 (.isub) 9 := ⟨1, rfl, Or.inr rfl, rfl⟩
set_option maxRecDepth 100000 in
theorem lk69_9 : xAt kT69 9 (.ireturn) 10 := ⟨1, rfl, Or.inr rfl, rfl⟩
set_option maxRecDepth 100000 in
theorem lk71_0 : xAt kT71 0 (.aload_n 0) 1 := ⟨1, rfl, Or.inr rfl, rfl⟩
set_option maxRecDepth 100000 in
theorem lk71_1 : xAt kT71 1 (.iload_n 1) 2 := ⟨1, rfl, Or.inr rfl, rfl⟩
set_option maxRecDepth 100000 in
theorem lk71_2 : xAt kT71 2 (.invokevirtual 76) 5 := ⟨3, rfl, Or.inr rfl, rfl⟩
set_option maxRecDepth 100000 in
theorem lk71_5 : xAt kT71 5 (.istore_n 2) 6 := ⟨1, rfl, Or.inr rfl, rfl⟩
set_option maxRecDepth 100000 in
theorem lk71_6 : xAt kT71 6 (.iload_n 2) 7 := ⟨1, rfl, Or.inr rfl, rfl⟩
set_option maxRecDepth 100000 in
theorem lk71_7 : xAt kT71 7 (.aload_n 0) 8 := ⟨1, rfl, Or.inr rfl, rfl⟩
set_option maxRecDepth 100000 in
theorem lk71_8 : xAt kT71 8 (.getfield 28) 11 := ⟨3, rfl, Or.inr rfl, rfl⟩
set_option maxRecDepth 100000 in
theorem lk71_11 : xAt kT71 11 (.if_icmp .ne 10) 14 := ⟨3, rfl, Or.inr rfl, rfl⟩
set_option maxRecDepth 100000 in
theorem lk71_14 : xAt kT71 14 (.aload_n 0) 15 := ⟨1, rfl, Or.inr rfl, rfl⟩
set_option maxRecDepth 100000 in
theorem lk71_15 : xAt kT71 15 (.getfield 22) 18 := ⟨3, rfl, Or.inr rfl, rfl⟩
set_option maxRecDepth 100000 in
theorem lk71_18 : xAt kT71 18 (.goto 15) 21 := ⟨3, rfl, Or.inr rfl, rfl⟩
set_option maxRecDepth 100000 in
theorem lk71_21 : xAt kT71 21 (.aload_n 0) 22 := ⟨1, rfl, Or.inr rfl, rfl⟩
set_option maxRecDepth 100000 in
theorem lk71_22 : xAt kT71 22 (.getfield 9) 25 := ⟨3, rfl, Or.inr rfl, rfl⟩
set_option maxRecDepth 100000 in
theorem lk71_25 : xAt kT71 25 (.aload_n 0) 26 := ⟨1, rfl, Or.inr rfl, rfl⟩
set_option maxRecDepth 100000 in
theorem lk71_26 : xAt kT71 26 (.iload_n 2) 27 := ⟨1, rfl, Or.inr rfl, rfl⟩
set_option maxRecDepth 100000 in
theorem lk71_27 : xAt kT71 27 (.invokevirtual 44) 30 := ⟨3, rfl, Or.inr rfl, rfl⟩
set_option maxRecDepth 100000 in
theorem lk71_30 : xAt kT71 30 (.iconst 3) 31 := ⟨1, rfl, Or.inr rfl, rfl⟩
set_option maxRecDepth 100000 in
theorem lk71_31 : xAt kT71 31 (.iadd) 32 := ⟨1, rfl, Or.inr rfl, rfl⟩
set_option maxRecDepth 100000 in
theorem lk71_32 : xAt kT71 32 (.iaload) 33 := ⟨1, rfl, Or.inr rfl, rfl⟩
set_option maxRecDepth 100000 in
theorem lk71_33 : xAt kT71 33 (.ireturn) 34 := ⟨1, rfl, Or.inr rfl, rfl⟩
set_option maxRecDepth 100000 in
theorem lk75_0 : xAt kT75 0 (.iload_n 1) 1 := ⟨1, rfl, Or.inr rfl, rfl⟩
set_option maxRecDepth 100000 in
theorem lk75_1 : xAt kT75 1 (.aload_n 0) 2 := ⟨1, rfl, Or.inr rfl, rfl⟩
set_option maxRecDepth 100000 in
theorem lk75_2 : xAt kT75 2 (.getfield 28) 5 := ⟨3, rfl, Or.inr rfl, rfl⟩
set_option maxRecDepth 100000 in
theorem lk75_5 : xAt kT75 5 (.if_icmp .ne 8) 8 := ⟨3, rfl, Or.inr rfl, rfl⟩
set_option maxRecDepth 100000 in
theorem lk75_8 : xAt kT75 8 (.aload_n 0) 9 := ⟨1, rfl, Or.inr rfl, rfl⟩
set_option maxRecDepth 100000 in
theorem lk75_9 : xAt kT75 9 (.getfield 31) 12 := ⟨3, rfl, Or.inr rfl, rfl⟩
set_option maxRecDepth 100000 in
theorem lk75_12 : xAt kT75 12 (.ireturn) 13 := ⟨1, rfl, Or.inr rfl, rfl⟩
set_option maxRecDepth 100000 in
theorem lk75_13 : xAt kT75 13 (.aload_n 0) 14 := ⟨1, rfl, Or.inr rfl, rfl⟩
set_option maxRecDepth 100000 in
theorem lk75_14 : xAt kT75 14 (.iload_n 1) 15 := ⟨1, rfl, Or.inr rfl, rfl⟩
set_option maxRecDepth 100000 in
theorem lk75_15 : xAt kT75 15 (.invokevirtual 40) 18 := ⟨3, rfl, Or.inr rfl, rfl⟩
set_option maxRecDepth 100000 in
theorem lk75_18 : xAt kT75 18 (.ifCond .eq 18) 21 := ⟨3, rfl, Or.inr rfl, rfl⟩
set_option maxRecDepth 100000 in
theorem lk75_21 : xAt kT75 21 (.aload_n 0) 22 := ⟨1, rfl, Or.inr rfl, rfl⟩
set_option maxRecDepth 100000 in
theorem lk75_22 : xAt kT75 22 (.getfield 9) 25 := ⟨3, rfl, Or.inr rfl, rfl⟩
set_option maxRecDepth 100000 in
theorem lk75_25 : xAt kT75 25 (.aload_n 0) 26 := ⟨1, rfl, Or.inr rfl, rfl⟩
set_option maxRecDepth 100000 in
theorem lk75_26 : xAt kT75 26 (.iload_n 1) 27 := ⟨1, rfl, Or.inr rfl, rfl⟩
set_option maxRecDepth 100000 in
theorem lk75_27 : xAt kT75 27 (.invokevirtual 44) 30 := ⟨3, rfl, Or.inr rfl, rfl⟩
set_option maxRecDepth 100000 in
theorem lk75_30 : xAt kT75 30 (.iconst 0) 31 := ⟨1, rfl, Or.inr rfl, rfl⟩
set_option maxRecDepth 100000 in
theorem lk75_31 : xAt kT75 31 (.iadd) 32 := ⟨1, rfl, Or.inr rfl, rfl⟩
set_option maxRecDepth 100000 in
theorem lk75_32 : xAt kT75 32 (.iaload) 33 := ⟨1, rfl, Or.inr rfl, rfl⟩
set_option maxRecDepth 100000 in
theorem lk75_33 : xAt kT75 33 (.goto 4) 36 := ⟨3, rfl, Or.inr rfl, rfl⟩
set_option maxRecDepth 100000 in
theorem lk75_36 : xAt kT75 36 (.iconst (-1)) 37 := ⟨1, rfl, Or.inr rfl, rfl⟩
set_option maxRecDepth 100000 in
theorem lk75_37 : xAt kT75 37 (.ireturn) 38 := ⟨1, rfl, Or.inr rfl, rfl⟩
set_option maxRecDepth 100000 in
theorem lk72_0 : xAt kT72 0 (.aload_n 0) 1 := ⟨1, rfl, Or.inr rfl, rfl⟩
set_option maxRecDepth 100000 in
theorem lk72_1 : xAt kT72 1 (.iload_n 1) 2 := ⟨1, rfl, Or.inr rfl, rfl⟩
set_option maxRecDepth 100000 in
theorem lk72_2 : xAt kT72 2 (.invokevirtual 54) 5 := ⟨3, rfl, Or.inr rfl, rfl⟩
set_option maxRecDepth 100000 in
theorem lk72_5 : xAt kT72 5 (.iload_n 2) 6 := ⟨1, rfl, Or.inr rfl, rfl⟩
set_option maxRecDepth 100000 in
theorem lk72_6 : xAt kT72 6 (.if_icmp .ne 12) 9 := ⟨3, rfl, Or.inr rfl, rfl⟩
set_option maxRecDepth 100000 in
theorem lk72_9 : xAt kT72 9 (.aload_n 0) 10 := ⟨1, rfl, Or.inr rfl, rfl⟩
set_option maxRecDepth 100000 in
theorem lk72_10 : xAt kT72 10 (.getfield 34) 13 := ⟨3, rfl, Or.inr rfl, rfl⟩
set_option maxRecDepth 100000 in
theorem lk72_13 : xAt kT72 13 (.iload_n 1) 14 := ⟨1, rfl, Or.inr rfl, rfl⟩
set_option maxRecDepth 100000 in
theorem lk72_14 : xAt kT72 14 (.isub) 15 := ⟨1, rfl, Or.inr rfl, rfl⟩
set_option maxRecDepth 100000 in
theorem lk72_15 : xAt kT72 15 (.goto 4) 18 := ⟨3, rfl, Or.inr rfl, rfl⟩
set_option maxRecDepth 100000 in
theorem lk72_18 : xAt kT72 18 (.iconst 0) 19 := ⟨1, rfl, Or.inr rfl, rfl⟩
set_option maxRecDepth 100000 in
theorem lk72_19 : xAt kT72 19 (.istore 4) 21 := ⟨2, rfl, Or.inr rfl, rfl⟩
set_option maxRecDepth 100000 in
theorem lk72_21 : xAt kT72 21 (.iload 4) 23 := ⟨2, rfl, Or.inr rfl, rfl⟩
set_option maxRecDepth 100000 in
theorem lk72_23 : xAt kT72 23 (.ifCond .le 27) 26 := ⟨3, rfl, Or.inr rfl, rfl⟩
set_option maxRecDepth 100000 in
theorem lk72_26 : xAt kT72 26 (.aload_n 0) 27 := ⟨1, rfl, Or.inr rfl, rfl⟩
set_option maxRecDepth 100000 in
theorem lk72_27 : xAt kT72 27 (.getfield 9) 30 := ⟨3, rfl, Or.inr rfl, rfl⟩
set_option maxRecDepth 100000 in
theorem lk72_30 : xAt kT72 30 (.aload_n 0) 31 := ⟨1, rfl, Or.inr rfl, rfl⟩
set_option maxRecDepth 100000 in
theorem lk72_31 : xAt kT72 31 (.iload_n 1) 32 := ⟨1, rfl, Or.inr rfl, rfl⟩
set_option maxRecDepth 100000 in
theorem lk72_32 : xAt kT72 32 (.iconst 1) 33 := ⟨1, rfl, Or.inr rfl, rfl⟩
set_option maxRecDepth 100000 in
theorem lk72_33 : xAt kT72 33 (.iadd) 34 := ⟨1, rfl, Or.inr rfl, rfl⟩
set_option maxRecDepth 100000 in
theorem lk72_34 : xAt kT72 34 (.invokevirtual 44) 37 := ⟨3, rfl, Or.inr rfl, rfl⟩
set_option maxRecDepth 100000 in
theorem lk72_37 : xAt kT72 37 (.aload_n 0) 38 := ⟨1, rfl, Or.inr rfl, rfl⟩
set_option maxRecDepth 100000 in
theorem lk72_38 : xAt kT72 38 (.getfield 9) 41 := ⟨3, rfl, Or.inr rfl, rfl⟩
set_option maxRecDepth 100000 in
theorem lk72_41 : xAt kT72 41 (.iconst 0) 42 := ⟨1, rfl, Or.inr rfl, rfl⟩
set_option maxRecDepth 100000 in
theorem lk72_42 : xAt kT72 42 (.iload 4) 44 := ⟨2, rfl, Or.inr rfl, rfl⟩
set_option maxRecDepth 100000 in
theorem lk72_44 : xAt kT72 44 (.bipush 6) 46 := ⟨2, rfl, Or.inr rfl, rfl⟩
set_option maxRecDepth 100000 in
theorem lk72_46 : xAt kT72 46 (.imul) 47 := ⟨1, rfl, Or.inr rfl, rfl⟩
set_option maxRecDepth 100000 in
theorem lk72_47 : xAt kT72 47 (.invokestatic 61) 50 := ⟨3, rfl, Or.inr rfl, rfl⟩
set_option maxRecDepth 100000 in
theorem lk72_50 : xAt kT72 50 (.aload_n 0) 51 := ⟨1, rfl, Or.inr rfl, rfl⟩
set_option maxRecDepth 100000 in
theorem lk72_51 : xAt kT72 51 (.iload_n 1) 52 := ⟨1, rfl, Or.inr rfl, rfl⟩
set_option maxRecDepth 100000 in
theorem lk72_52 : xAt kT72 52 (.putfield 28) 55 := ⟨3, rfl, Or.inr rfl, rfl⟩
set_option maxRecDepth 100000 in
theorem lk72_55 : xAt kT72 55 (.aload_n 0) 56 := ⟨1, rfl, Or.inr rfl, rfl⟩
set_option maxRecDepth 100000 in
theorem lk72_56 : xAt kT72 56 (.iload_n 2) 57 := ⟨1, rfl, Or.inr rfl, rfl⟩
set_option maxRecDepth 100000 in
theorem lk72_57 : xAt kT72 57 (.putfield 31) 60 := ⟨3, rfl, Or.inr rfl, rfl⟩
set_option maxRecDepth 100000 in
theorem lk72_60 : xAt kT72 60 (.aload_n 0) 61 := ⟨1, rfl, Or.inr rfl, rfl⟩
set_option maxRecDepth 100000 in
theorem lk72_61 : xAt kT72 61 (.iload_n 3) 62 := ⟨1, rfl, Or.inr rfl, rfl⟩
set_option maxRecDepth 100000 in
theorem lk72_62 : xAt kT72 62 (.putfield 22) 65 := ⟨3, rfl, Or.inr rfl, rfl⟩
set_option maxRecDepth 100000 in
theorem lk72_65 : xAt kT72 65 (.aload_n 0) 66 := ⟨1, rfl, Or.inr rfl, rfl⟩
set_option maxRecDepth 100000 in
theorem lk72_66 : xAt kT72 66 (.iload_n 1) 67 := ⟨1, rfl, Or.inr rfl, rfl⟩
set_option maxRecDepth 100000 in
theorem lk72_67 : xAt kT72 67 (.iload 4) 69 := ⟨2, rfl, Or.inr rfl, rfl⟩
set_option maxRecDepth 100000 in
theorem lk72_69 : xAt kT72 69 (.iadd) 70 := ⟨1, rfl, Or.inr rfl, rfl⟩
set_option maxRecDepth 100000 in
theorem lk72_70 : xAt kT72 70 (.putfield 34) 73 := ⟨3, rfl, Or.inr rfl, rfl⟩
set_option maxRecDepth 100000 in
theorem lk72_73 : xAt kT72 73 (.aload_n 0) 74 := ⟨1, rfl, Or.inr rfl, rfl⟩
set_option maxRecDepth 100000 in
theorem lk72_74 : xAt kT72 74 (.aload_n 0) 75 := ⟨1, rfl, Or.inr rfl, rfl⟩
set_option maxRecDepth 100000 in
theorem lk72_75 : xAt kT72 75 (.getfield 73) 78 := ⟨3, rfl, Or.inr rfl, rfl⟩
set_option maxRecDepth 100000 in
theorem lk72_78 : xAt kT72 78 (.aload_n 0) 79 := ⟨1, rfl, Or.inr rfl, rfl⟩
set_option maxRecDepth 100000 in
theorem lk72_79 : xAt kT72 79 (.getfield 34) 82 := ⟨3, rfl, Or.inr rfl, rfl⟩
set_option maxRecDepth 100000 in
theorem lk72_82 : xAt kT72 82 (.invokestatic 70) 85 := ⟨3, rfl, Or.inr rfl, rfl⟩
set_option maxRecDepth 100000 in
theorem lk72_85 : xAt kT72 85 (.putfield 73) 88 := ⟨3, rfl, Or.inr rfl, rfl⟩
set_option maxRecDepth 100000 in
theorem lk72_88 : xAt kT72 88 (.aload_n 0) 89 := ⟨1, rfl, Or.inr rfl, rfl⟩
set_option maxRecDepth 100000 in
theorem lk72_89 : xAt kT72 89 (.invokevirtual 37) 92 := ⟨3, rfl, Or.inr rfl, rfl⟩
set_option maxRecDepth 100000 in
theorem lk72_92 : xAt kT72 92 (.return_) 93 := ⟨1, rfl, Or.inr rfl, rfl⟩
set_option maxRecDepth 100000 in
theorem lk73_0 : xAt kT73 0 (.aload_n 0) 1 := ⟨1, rfl, Or.inr rfl, rfl⟩
set_option maxRecDepth 100000 in
theorem lk73_1 : xAt kT73 1 (.getfield 15) 4 := ⟨3, rfl, Or.inr rfl, rfl⟩
set_option maxRecDepth 100000 in
theorem lk73_4 : xAt kT73 4 (.iconst 0) 5 := ⟨1, rfl, Or.inr rfl, rfl⟩
set_option maxRecDepth 100000 in
theorem lk73_5 : xAt kT73 5 (.iload_n 1) 6 := ⟨1, rfl, Or.inr rfl, rfl⟩
set_option maxRecDepth 100000 in
theorem lk73_6 : xAt kT73 6 (.iastore) 7 := ⟨1, rfl, Or.inr rfl, rfl⟩
set_option maxRecDepth 100000 in
theorem lk73_7 : xAt kT73 7 (.aload_n 0) 8 := ⟨1, rfl, Or.inr rfl, rfl⟩
set_option maxRecDepth 100000 in
theorem lk73_8 : xAt kT73 8 (.getfield 15) 11 := ⟨3, rfl, Or.inr rfl, rfl⟩
set_option maxRecDepth 100000 in
theorem lk73_11 : xAt kT73 11 (.iconst 1) 12 := ⟨1, rfl, Or.inr rfl, rfl⟩
set_option maxRecDepth 100000 in
theorem lk73_12 : xAt kT73 12 (.iload_n 2) 13 := ⟨1, rfl, Or.inr rfl, rfl⟩
set_option maxRecDepth 100000 in
theorem lk73_13 : xAt kT73 13 (.iastore) 14 := ⟨1, rfl, Or.inr rfl, rfl⟩
set_option maxRecDepth 100000 in
theorem lk73_14 : xAt kT73 14 (.aload_n 0) 15 := ⟨1, rfl, Or.inr rfl, rfl⟩
set_option maxRecDepth 100000 in
theorem lk73_15 : xAt kT73 15 (.getfield 15) 18 := ⟨3, rfl, Or.inr rfl, rfl⟩
set_option maxRecDepth 100000 in
theorem lk73_18 : xAt kT73 18 (.iconst 2) 19 := ⟨1, rfl, Or.inr rfl, rfl⟩
set_option maxRecDepth 100000 in
theorem lk73_19 : xAt kT73 19 (.iload_n 3) 20 := ⟨1, rfl, Or.inr rfl, rfl⟩
set_option maxRecDepth 100000 in
theorem lk73_20 : xAt kT73 20 (.iastore) 21 := ⟨1, rfl, Or.inr rfl, rfl⟩
set_option maxRecDepth 100000 in
theorem lk73_21 : xAt kT73 21 (.aload_n 0) 22 := ⟨1, rfl, Or.inr rfl, rfl⟩
set_option maxRecDepth 100000 in
theorem lk73_22 : xAt kT73 22 (.getfield 15) 25 := ⟨3, rfl, Or.inr rfl, rfl⟩
set_option maxRecDepth 100000 in
theorem lk73_25 : xAt kT73 25 (.iconst 3) 26 := ⟨1, rfl, Or.inr rfl, rfl⟩
set_option maxRecDepth 100000 in
theorem lk73_26 : xAt kT73 26 (.iload 4) 28 := ⟨2, rfl, Or.inr rfl, rfl⟩
set_option maxRecDepth 100000 in
theorem lk73_28 : xAt kT73 28 (.iastore) 29 := ⟨1, rfl, Or.inr rfl, rfl⟩
set_option maxRecDepth 100000 in
theorem lk73_29 : xAt kT73 29 (.aload_n 0) 30 := ⟨1, rfl, Or.inr rfl, rfl⟩
set_option maxRecDepth 100000 in
theorem lk73_30 : xAt kT73 30 (.getfield 15) 33 := ⟨3, rfl, Or.inr rfl, rfl⟩
set_option maxRecDepth 100000 in
theorem lk73_33 : xAt kT73 33 (.iconst 4) 34 := ⟨1, rfl, Or.inr rfl, rfl⟩
set_option maxRecDepth 100000 in
theorem lk73_34 : xAt kT73 34 (.iload 5) 36 := ⟨2, rfl, Or.inr rfl, rfl⟩
set_option maxRecDepth 100000 in
theorem lk73_36 : xAt kT73 36 (.iastore) 37 := ⟨1, rfl, Or.inr rfl, rfl⟩
set_option maxRecDepth 100000 in
theorem lk73_37 : xAt kT73 37 (.aload_n 0) 38 := ⟨1, rfl, Or.inr rfl, rfl⟩
set_option maxRecDepth 100000 in
theorem lk73_38 : xAt kT73 38 (.getfield 15) 41 := ⟨3, rfl, Or.inr rfl, rfl⟩
set_option maxRecDepth 100000 in
theorem lk73_41 : xAt kT73 41 (.iconst 5) 42 := ⟨1, rfl, Or.inr rfl, rfl⟩
set_option maxRecDepth 100000 in
theorem lk73_42 : xAt kT73 42 (.iload 6) 44 := ⟨2, rfl, Or.inr rfl, rfl⟩
set_option maxRecDepth 100000 in
theorem lk73_44 : xAt kT73 44 (.iastore) 45 := ⟨1, rfl, Or.inr rfl, rfl⟩
set_option maxRecDepth 100000 in
theorem lk73_45 : xAt kT73 45 (.aload_n 0) 46 := ⟨1, rfl, Or.inr rfl, rfl⟩
set_option maxRecDepth 100000 in
theorem lk73_46 : xAt kT73 46 (.getfield 15) 49 := ⟨3, rfl, Or.inr rfl, rfl⟩
set_option maxRecDepth 100000 in
theorem lk73_49 : xAt kT73 49 (.areturn) 50 := ⟨1, rfl, Or.inr rfl, rfl⟩
set_option maxRecDepth 100000 in
theorem lk74_0 : xAt kT74 0 (.iload_n 1) 1 := ⟨1, rfl, Or.inr rfl, rfl⟩
set_option maxRecDepth 100000 in
theorem lk74_1 : xAt kT74 1 (.aload_n 0) 2 := ⟨1, rfl, Or.inr rfl, rfl⟩
set_option maxRecDepth 100000 in
theorem lk74_2 : xAt kT74 2 (.getfield 28) 5 := ⟨3, rfl, Or.inr rfl, rfl⟩
set_option maxRecDepth 100000 in
theorem lk74_5 : xAt kT74 5 (.iconst 1) 6 := ⟨1, rfl, Or.inr rfl, rfl⟩
set_option maxRecDepth 100000 in
theorem lk74_6 : xAt kT74 6 (.iadd) 7 := ⟨1, rfl, Or.inr rfl, rfl⟩
set_option maxRecDepth 100000 in
theorem lk74_7 : xAt kT74 7 (.invokestatic 48) 10 := ⟨3, rfl, Or.inr rfl, rfl⟩
set_option maxRecDepth 100000 in
theorem lk74_10 : xAt kT74 10 (.istore_n 2) 11 := ⟨1, rfl, Or.inr rfl, rfl⟩
set_option maxRecDepth 100000 in
theorem lk74_11 : xAt kT74 11 (.aload_n 0) 12 := ⟨1, rfl, Or.inr rfl, rfl⟩
set_option maxRecDepth 100000 in
theorem lk74_12 : xAt kT74 12 (.iload_n 2) 13 := ⟨1, rfl, Or.inr rfl, rfl⟩
set_option maxRecDepth 100000 in
theorem lk74_13 : xAt kT74 13 (.invokevirtual 54) 16 := ⟨3, rfl, Or.inr rfl, rfl⟩
set_option maxRecDepth 100000 in
theorem lk74_16 : xAt kT74 16 (.istore_n 3) 17 := ⟨1, rfl, Or.inr rfl, rfl⟩
set_option maxRecDepth 100000 in
theorem lk74_17 : xAt kT74 17 (.iload_n 2) 18 := ⟨1, rfl, Or.inr rfl, rfl⟩
set_option maxRecDepth 100000 in
theorem lk74_18 : xAt kT74 18 (.aload_n 0) 19 := ⟨1, rfl, Or.inr rfl, rfl⟩
set_option maxRecDepth 100000 in
theorem lk74_19 : xAt kT74 19 (.getfield 28) 22 := ⟨3, rfl, Or.inr rfl, rfl⟩
set_option maxRecDepth 100000 in
theorem lk74_22 : xAt kT74 22 (.iconst 1) 23 := ⟨1, rfl, Or.inr rfl, rfl⟩
set_option maxRecDepth 100000 in
theorem lk74_23 : xAt kT74 23 (.iadd) 24 := ⟨1, rfl, Or.inr rfl, rfl⟩
set_option maxRecDepth 100000 in
theorem lk74_24 : xAt kT74 24 (.if_icmp .le 20) 27 := ⟨3, rfl, Or.inr rfl, rfl⟩
set_option maxRecDepth 100000 in
theorem lk74_27 : xAt kT74 27 (.aload_n 0) 28 := ⟨1, rfl, Or.inr rfl, rfl⟩
set_option maxRecDepth 100000 in
theorem lk74_28 : xAt kT74 28 (.iload_n 2) 29 := ⟨1, rfl, Or.inr rfl, rfl⟩
set_option maxRecDepth 100000 in
theorem lk74_29 : xAt kT74 29 (.iconst 1) 30 := ⟨1, rfl, Or.inr rfl, rfl⟩
set_option maxRecDepth 100000 in
theorem lk74_30 : xAt kT74 30 (.isub) 31 := ⟨1, rfl, Or.inr rfl, rfl⟩
set_option maxRecDepth 100000 in
theorem lk74_31 : xAt kT74 31 (.invokevirtual 54) 34 := ⟨3, rfl, Or.inr rfl, rfl⟩
set_option maxRecDepth 100000 in
theorem lk74_34 : xAt kT74 34 (.iload_n 3) 35 := ⟨1, rfl, Or.inr rfl, rfl⟩
set_option maxRecDepth 100000 in
theorem lk74_35 : xAt kT74 35 (.if_icmp .ne 9) 38 := ⟨3, rfl, Or.inr rfl, rfl⟩
set_option maxRecDepth 100000 in
theorem lk74_38 : xAt kT74 38 (.iinc 2 (-1)) 41 := ⟨3, rfl, Or.inr rfl, rfl⟩
set_option maxRecDepth 100000 in
theorem lk74_41 : xAt kT74 41 (.goto (-24)) 44 := ⟨3, rfl, Or.inr rfl, rfl⟩
set_option maxRecDepth 100000 in
theorem lk74_44 : xAt kT74 44 (.iload_n 2) 45 := ⟨1, rfl, Or.inr rfl, rfl⟩
set_option maxRecDepth 100000 in
theorem lk74_45 : xAt kT74 45 (.ireturn) 46 := ⟨1, rfl, Or.inr rfl, rfl⟩
set_option maxRecDepth 100000 in
theorem lk119_0 : xAt kT119 0 (.iload_n 0) 1 := ⟨1, rfl, Or.inr rfl, rfl⟩
set_option maxRecDepth 100000 in
theorem lk119_1 : xAt kT119 1 (.bipush 31) 3 := ⟨2, rfl, Or.inr rfl, rfl⟩
set_option maxRecDepth 100000 in
theorem lk119_3 : xAt kT119 3 (.iand) 4 := ⟨1, rfl, Or.inr rfl, rfl⟩
set_option maxRecDepth 100000 in
theorem lk119_4 : xAt kT119 4 (.ireturn) 5 := ⟨1, rfl, Or.inr rfl, rfl⟩
set_option maxRecDepth 100000 in
theorem lk115_0 : xAt kT115 0 (.aload_n 0) 1 := ⟨1, rfl, Or.inr rfl, rfl⟩
set_option maxRecDepth 100000 in
theorem lk115_1 : xAt kT115 1 (.getfield 34) 4 := ⟨3, rfl, Or.inr rfl, rfl⟩
set_option maxRecDepth 100000 in
theorem lk115_4 : xAt kT115 4 (.invokestatic 38) 7 := ⟨3, rfl, Or.inr rfl, rfl⟩
set_option maxRecDepth 100000 in
theorem lk115_7 : xAt kT115 7 (.istore 5) 9 := ⟨2, rfl, Or.inr rfl, rfl⟩
set_option maxRecDepth 100000 in
theorem lk115_9 : xAt kT115 9 (.aload_n 0) 10 := ⟨1, rfl, Or.inr rfl, rfl⟩
set_option maxRecDepth 100000 in
theorem lk115_10 : xAt kT115 10 (.dup) 11 := ⟨1, rfl, Or.inr rfl, rfl⟩
set_option maxRecDepth 100000 in
theorem lk115_11 : xAt kT115 11 (.getfield 34) 14 := ⟨3, rfl, Or.inr rfl, rfl⟩
set_option maxRecDepth 100000 in
theorem lk115_14 : xAt kT115 14 (.iconst 1) 15 := ⟨1, rfl, Or.inr rfl, rfl⟩
set_option maxRecDepth 100000 in
theorem lk115_15 : xAt kT115 15 (.iadd) 16 := ⟨1, rfl, Or.inr rfl, rfl⟩
set_option maxRecDepth 100000 in
theorem lk115_16 : xAt kT115 16 (.putfield 34) 19 := ⟨3, rfl, Or.inr rfl, rfl⟩
set_option maxRecDepth 100000 in
theorem lk115_19 : xAt kT115 19 (.aload_n 0) 20 := ⟨1, rfl, Or.inr rfl, rfl⟩
set_option maxRecDepth 100000 in
theorem lk115_20 : xAt kT115 20 (.getfield 9) 23 := ⟨3, rfl, Or.inr rfl, rfl⟩
set_option maxRecDepth 100000 in
theorem lk115_23 : xAt kT115 23 (.iload 5) 25 := ⟨2, rfl, Or.inr rfl, rfl⟩
set_option maxRecDepth 100000 in
theorem lk115_25 : xAt kT115 25 (.baload) 26 := ⟨1, rfl, Or.inr rfl, rfl⟩
set_option maxRecDepth 100000 in
theorem lk115_26 : xAt kT115 26 (.ifCond .ne 13) 29 := ⟨3, rfl, Or.inr rfl, rfl⟩
set_option maxRecDepth 100000 in
theorem lk115_29 : xAt kT115 29 (.aload_n 0) 30 := ⟨1, rfl, Or.inr rfl, rfl⟩
set_option maxRecDepth 100000 in
theorem lk115_30 : xAt kT115 30 (.dup) 31 := ⟨1, rfl, Or.inr rfl, rfl⟩
set_option maxRecDepth 100000 in
theorem lk115_31 : xAt kT115 31 (.getfield 42) 34 := ⟨3, rfl, Or.inr rfl, rfl⟩
set_option maxRecDepth 100000 in
theorem lk115_34 : xAt kT115 34 (.iconst 1) 35 := ⟨1, rfl, Or.inr rfl, rfl⟩
set_option maxRecDepth 100000 in
theorem lk115_35 : xAt kT115 35 (.iadd) 36 := ⟨1, rfl, Or.inr rfl, rfl⟩
set_option maxRecDepth 100000 in
theorem lk115_36 : xAt kT115 36 (.putfield 42) 39 := ⟨3, rfl, Or.inr rfl, rfl⟩
set_option maxRecDepth 100000 in
theorem lk115_39 : xAt kT115 39 (.aload_n 0) 40 := ⟨1, rfl, Or.inr rfl, rfl⟩
set_option maxRecDepth 100000 in
theorem lk115_40 : xAt kT115 40 (.getfield 9) 43 := ⟨3, rfl, Or.inr rfl, rfl⟩
set_option maxRecDepth 100000 in
theorem lk115_43 : xAt kT115 43 (.iload 5) 45 := ⟨2, rfl, Or.inr rfl, rfl⟩
set_option maxRecDepth 100000 in
theorem lk115_45 : xAt kT115 45 (.iconst 1) 46 := ⟨1, rfl, Or.inr rfl, rfl⟩
set_option maxRecDepth 100000 in
theorem lk115_46 : xAt kT115 46 (.bastore) 47 := ⟨1, rfl, Or.inr rfl, rfl⟩
set_option maxRecDepth 100000 in
theorem lk115_47 : xAt kT115 47 (.aload_n 0) 48 := ⟨1, rfl, Or.inr rfl, rfl⟩
set_option maxRecDepth 100000 in
theorem lk115_48 : xAt kT115 48 (.getfield 15) 51 := ⟨3, rfl, Or.inr rfl, rfl⟩
set_option maxRecDepth 100000 in
theorem lk115_51 : xAt kT115 51 (.iload 5) 53 := ⟨2, rfl, Or.inr rfl, rfl⟩
set_option maxRecDepth 100000 in
theorem lk115_53 : xAt kT115 53 (.aload_n 1) 54 := ⟨1, rfl, Or.inr rfl, rfl⟩
set_option maxRecDepth 100000 in
theorem lk115_54 : xAt kT115 54 (.getfield 45) 57 := ⟨3, rfl, Or.inr rfl, rfl⟩
set_option maxRecDepth 100000 in
theorem lk115_57 : xAt kT115 57 (.iastore) 58 := ⟨1, rfl, Or.inr rfl, rfl⟩
set_option maxRecDepth 100000 in
theorem lk115_58 : xAt kT115 58 (.aload_n 0) 59 := ⟨1, rfl, Or.inr rfl, rfl⟩
set_option maxRecDepth 100000 in
theorem lk115_59 : xAt kT115 59 (.getfield 19) 62 := ⟨3, rfl, Or.inr rfl, rfl⟩
set_option maxRecDepth 100000 in
theorem lk115_62 : xAt kT115 62 (.iload 5) 64 := ⟨2, rfl, Or.inr rfl, rfl⟩
set_option maxRecDepth 100000 in
theorem lk115_64 : xAt kT115 64 (.aload_n 1) 65 := ⟨1, rfl, Or.inr rfl, rfl⟩
set_option maxRecDepth 100000 in
theorem lk115_65 : xAt kT115 65 (.getfield 50) 68 := ⟨3, rfl, Or.inr rfl, rfl⟩
set_option maxRecDepth 100000 in
theorem lk115_68 : xAt kT115 68 (.iastore) 69 := ⟨1, rfl, Or.inr rfl, rfl⟩
set_option maxRecDepth 100000 in
theorem lk115_69 : xAt kT115 69 (.aload_n 0) 70 := ⟨1, rfl, Or.inr rfl, rfl⟩
set_option maxRecDepth 100000 in
theorem lk115_70 : xAt kT115 70 (.getfield 22) 73 := ⟨3, rfl, Or.inr rfl, rfl⟩
set_option maxRecDepth 100000 in
theorem lk115_73 : xAt kT115 73 (.iload 5) 75 := ⟨2, rfl, Or.inr rfl, rfl⟩
set_option maxRecDepth 100000 in
theorem lk115_75 : xAt kT115 75 (.aload_n 1) 76 := ⟨1, rfl, Or.inr rfl, rfl⟩
set_option maxRecDepth 100000 in
theorem lk115_76 : xAt kT115 76 (.getfield 52) 79 := ⟨3, rfl, Or.inr rfl, rfl⟩
set_option maxRecDepth 100000 in
theorem lk115_79 : xAt kT115 79 (.iastore) 80 := ⟨1, rfl, Or.inr rfl, rfl⟩
set_option maxRecDepth 100000 in
theorem lk115_80 : xAt kT115 80 (.aload_n 0) 81 := ⟨1, rfl, Or.inr rfl, rfl⟩
set_option maxRecDepth 100000 in
theorem lk115_81 : xAt kT115 81 (.getfield 25) 84 := ⟨3, rfl, Or.inr rfl, rfl⟩
set_option maxRecDepth 100000 in
theorem lk115_84 : xAt kT115 84 (.iload 5) 86 := ⟨2, rfl, Or.inr rfl, rfl⟩
set_option maxRecDepth 100000 in
theorem lk115_86 : xAt kT115 86 (.iload_n 2) 87 := ⟨1, rfl, Or.inr rfl, rfl⟩
set_option maxRecDepth 100000 in
theorem lk115_87 : xAt kT115 87 (.iastore) 88 := ⟨1, rfl, Or.inr rfl, rfl⟩
set_option maxRecDepth 100000 in
theorem lk115_88 : xAt kT115 88 (.aload_n 0) 89 := ⟨1, rfl, Or.inr rfl, rfl⟩
set_option maxRecDepth 100000 in
theorem lk115_89 : xAt kT115 89 (.getfield 28) 92 := ⟨3, rfl, Or.inr rfl, rfl⟩
set_option maxRecDepth 100000 in
theorem lk115_92 : xAt kT115 92 (.iload 5) 94 := ⟨2, rfl, Or.inr rfl, rfl⟩
set_option maxRecDepth 100000 in
theorem lk115_94 : xAt kT115 94 (.iload_n 3) 95 := ⟨1, rfl, Or.inr rfl, rfl⟩
set_option maxRecDepth 100000 in
theorem lk115_95 : xAt kT115 95 (.iastore) 96 := ⟨1, rfl, Or.inr rfl, rfl⟩
set_option maxRecDepth 100000 in
theorem lk115_96 : xAt kT115 96 (.aload_n 0) 97 := ⟨1, rfl, Or.inr rfl, rfl⟩
set_option maxRecDepth 100000 in
theorem lk115_97 : xAt kT115 97 (.getfield 31) 100 := ⟨3, rfl, Or.inr rfl, rfl⟩
set_option maxRecDepth 100000 in
theorem lk115_100 : xAt kT115 100 (.iload 5) 102 := ⟨2, rfl, Or.inr rfl, rfl⟩
set_option maxRecDepth 100000 in
theorem lk115_102 : xAt kT115 102 (.iload 4) 104 := ⟨2, rfl, Or.inr rfl, rfl⟩
set_option maxRecDepth 100000 in
theorem lk115_104 : xAt kT115 104 (.iastore) 105 := ⟨1, rfl, Or.inr rfl, rfl⟩
set_option maxRecDepth 100000 in
theorem lk115_105 : xAt kT115 105 (.return_) 106 := ⟨1, rfl, Or.inr rfl, rfl⟩
set_option maxRecDepth 100000 in
theorem lk116_0 : xAt kT116 0 (.aload_n 0) 1 := ⟨1, rfl, Or.inr rfl, rfl⟩
set_option maxRecDepth 100000 in
theorem lk116_1 : xAt kT116 1 (.getfield 9) 4 := ⟨3, rfl, Or.inr rfl, rfl⟩
set_option maxRecDepth 100000 in
theorem lk116_4 : xAt kT116 4 (.iload_n 1) 5 := ⟨1, rfl, Or.inr rfl, rfl⟩
set_option maxRecDepth 100000 in
theorem lk116_5 : xAt kT116 5 (.baload) 6 := ⟨1, rfl, Or.inr rfl, rfl⟩
set_option maxRecDepth 100000 in
theorem lk116_6 : xAt kT116 6 (.ifCond .eq 20) 9 := ⟨3, rfl, Or.inr rfl, rfl⟩
set_option maxRecDepth 100000 in
theorem lk116_9 : xAt kT116 9 (.aload_n 0) 10 := ⟨1, rfl, Or.inr rfl, rfl⟩
set_option maxRecDepth 100000 in
theorem lk116_10 : xAt kT116 10 (.getfield 9) 13 := ⟨3, rfl, Or.inr rfl, rfl⟩
set_option maxRecDepth 100000 in
theorem lk116_13 : xAt kT116 13 (.iload_n 1) 14 := ⟨1, rfl, Or.inr rfl, rfl⟩
set_option maxRecDepth 100000 in
theorem lk116_14 : xAt kT116 14 (.iconst 0) 15 := ⟨1, rfl, Or.inr rfl, rfl⟩
set_option maxRecDepth 100000 in
theorem lk116_15 : xAt kT116 15 (.bastore) 16 := ⟨1, rfl, Or.inr rfl, rfl⟩
set_option maxRecDepth 100000 in
theorem lk116_16 : xAt kT116 16 (.aload_n 0) 17 := ⟨1, rfl, Or.inr rfl, rfl⟩
set_option maxRecDepth 100000 in
theorem lk116_17 : xAt kT116 17 (.dup) 18 := ⟨1, rfl, Or.inr rfl, rfl⟩
set_option maxRecDepth 100000 in
theorem lk116_18 : xAt kT116 18 (.getfield 42) 21 := ⟨3, rfl, Or.inr rfl, rfl⟩
set_option maxRecDepth 100000 in
theorem lk116_21 : xAt kT116 21 (.iconst 1) 22 := ⟨1, rfl, Or.inr rfl, rfl⟩
set_option maxRecDepth 100000 in
theorem lk116_22 : xAt kT116 22 (.isub) 23 := ⟨1, rfl, Or.inr rfl, rfl⟩
set_option maxRecDepth 100000 in
theorem lk116_23 : xAt kT116 23 (.putfield 42) 26 := ⟨3, rfl, Or.inr rfl, rfl⟩
set_option maxRecDepth 100000 in
theorem lk116_26 : xAt kT116 26 (.return_) 27 := ⟨1, rfl, Or.inr rfl, rfl⟩
set_option maxRecDepth 100000 in
theorem lk117_0 : xAt kT117 0 (.iconst 0) 1 := ⟨1, rfl, Or.inr rfl, rfl⟩
set_option maxRecDepth 100000 in
theorem lk117_1 : xAt kT117 1 (.istore_n 1) 2 := ⟨1, rfl, Or.inr rfl, rfl⟩
set_option maxRecDepth 100000 in
theorem lk117_2 : xAt kT117 2 (.iload_n 1) 3 := ⟨1, rfl, Or.inr rfl, rfl⟩
set_option maxRecDepth 100000 in
theorem lk117_3 : xAt kT117 3 (.bipush 32) 5 := ⟨2, rfl, Or.inr rfl, rfl⟩
set_option maxRecDepth 100000 in
theorem lk117_5 : xAt kT117 5 (.if_icmp .ge 16) 8 := ⟨3, rfl, Or.inr rfl, rfl⟩
set_option maxRecDepth 100000 in
theorem lk117_8 : xAt kT117 8 (.aload_n 0) 9 := ⟨1, rfl, Or.inr rfl, rfl⟩
set_option maxRecDepth 100000 in
theorem lk117_9 : xAt kT117 9 (.getfield 9) 12 := ⟨3, rfl, Or.inr rfl, rfl⟩
set_option maxRecDepth 100000 in
theorem lk117_12 : xAt kT117 12 (.iload_n 1) 13 := ⟨1, rfl, Or.inr rfl, rfl⟩
set_option maxRecDepth 100000 in
theorem lk117_13 : xAt kT117 13 (.iconst 0) 14 := ⟨1, rfl, Or.inr rfl, rfl⟩
set_option maxRecDepth 100000 in
theorem lk117_14 : xAt kT117 14 (.bastore) 15 := ⟨1, rfl, Or.inr rfl, rfl⟩
set_option maxRecDepth 100000 in
theorem lk117_15 : xAt kT117 15 (.iinc 1 1) 18 := ⟨3, rfl, Or.inr rfl, rfl⟩
set_option maxRecDepth 100000 in
theorem lk117_18 : xAt kT117 18 (.goto (-16)) 21 := ⟨3, rfl, Or.inr rfl, rfl⟩
set_option maxRecDepth 100000 in
theorem lk117_21 : xAt kT117 21 (.aload_n 0) 22 := ⟨1, rfl, Or.inr rfl, rfl⟩
set_option maxRecDepth 100000 in
theorem lk117_22 : xAt kT117 22 (.iconst 0) 23 := ⟨1, rfl, Or.inr rfl, rfl⟩
set_option maxRecDepth 100000 in
theorem lk117_23 : xAt kT117 23 (.putfield 42) 26 := ⟨3, rfl, Or.inr rfl, rfl⟩
set_option maxRecDepth 100000 in
theorem lk117_26 : xAt kT117 26 (.return_) 27 := ⟨1, rfl, Or.inr rfl, rfl⟩
set_option maxRecDepth 100000 in
theorem lk120_0 : xAt kT120 0 (.iconst 0) 1 := ⟨1, rfl, Or.inr rfl, rfl⟩
set_option maxRecDepth 100000 in
theorem lk120_1 : xAt kT120 1 (.istore_n 2) 2 := ⟨1, rfl, Or.inr rfl, rfl⟩
set_option maxRecDepth 100000 in
theorem lk120_2 : xAt kT120 2 (.aload_n 0) 3 := ⟨1, rfl, Or.inr rfl, rfl⟩
set_option maxRecDepth 100000 in
theorem lk120_3 : xAt kT120 3 (.getfield 42) 6 := ⟨3, rfl, Or.inr rfl, rfl⟩
set_option maxRecDepth 100000 in
theorem lk120_6 : xAt kT120 6 (.ifCond .le 46) 9 := ⟨3, rfl, Or.inr rfl, rfl⟩
set_option maxRecDepth 100000 in
theorem lk120_9 : xAt kT120 9 (.iload_n 2) 10 := ⟨1, rfl, Or.inr rfl, rfl⟩
set_option maxRecDepth 100000 in
theorem lk120_10 : xAt kT120 10 (.bipush 32) 12 := ⟨2, rfl, Or.inr rfl, rfl⟩
set_option maxRecDepth 100000 in
theorem lk120_12 : xAt kT120 12 (.if_icmp .ge 40) 15 := ⟨3, rfl, Or.inr rfl, rfl⟩
set_option maxRecDepth 100000 in
theorem lk120_15 : xAt kT120 15 (.aload_n 0) 16 := ⟨1, rfl, Or.inr rfl, rfl⟩
set_option maxRecDepth 100000 in
theorem lk120_16 : xAt kT120 16 (.getfield 9) 19 := ⟨3, rfl, Or.inr rfl, rfl⟩
set_option maxRecDepth 100000 in
theorem lk120_19 : xAt kT120 19 (.iload_n 2) 20 := ⟨1, rfl, Or.inr rfl, rfl⟩
set_option maxRecDepth 100000 in
theorem lk120_20 : xAt kT120 20 (.baload) 21 := ⟨1, rfl, Or.inr rfl, rfl⟩
set_option maxRecDepth 100000 in
theorem lk120_21 : xAt kT120 21 (.ifCond .eq 25) 24 := ⟨3, rfl, Or.inr rfl, rfl⟩
set_option maxRecDepth 100000 in
theorem lk120_24 : xAt kT120 24 (.aload_n 0) 25 := ⟨1, rfl, Or.inr rfl, rfl⟩
set_option maxRecDepth 100000 in
theorem lk120_25 : xAt kT120 25 (.getfield 31) 28 := ⟨3, rfl, Or.inr rfl, rfl⟩
set_option maxRecDepth 100000 in
theorem lk120_28 : xAt kT120 28 (.iload_n 2) 29 := ⟨1, rfl, Or.inr rfl, rfl⟩
set_option maxRecDepth 100000 in
theorem lk120_29 : xAt kT120 29 (.iaload) 30 := ⟨1, rfl, Or.inr rfl, rfl⟩
set_option maxRecDepth 100000 in
theorem lk120_30 : xAt kT120 30 (.iconst (-1)) 31 := ⟨1, rfl, Or.inr rfl, rfl⟩
set_option maxRecDepth 100000 in
theorem lk120_31 : xAt kT120 31 (.if_icmp .ne 15) 34 := ⟨3, rfl, Or.inr rfl, rfl⟩
set_option maxRecDepth 100000 in
theorem lk120_34 : xAt kT120 34 (.aload_n 0) 35 := ⟨1, rfl, Or.inr rfl, rfl⟩
set_option maxRecDepth 100000 in
theorem lk120_35 : xAt kT120 35 (.getfield 25) 38 := ⟨3, rfl, Or.inr rfl, rfl⟩
set_option maxRecDepth 100000 in
theorem lk120_38 : xAt kT120 38 (.iload_n 2) 39 := ⟨1, rfl, Or.inr rfl, rfl⟩
set_option maxRecDepth 100000 in
theorem lk120_39 : xAt kT120 39 (.iaload) 40 := ⟨1, rfl, Or.inr rfl, rfl⟩
set_option maxRecDepth 100000 in
theorem lk120_40 : xAt kT120 40 (.iload_n 1) 41 := ⟨1, rfl, Or.inr rfl, rfl⟩
set_option maxRecDepth 100000 in
theorem lk120_41 : xAt kT120 41 (.if_icmp .ne 5) 44 := ⟨3, rfl, Or.inr rfl, rfl⟩
set_option maxRecDepth 100000 in
theorem lk120_44 : xAt kT120 44 (.iload_n 2) 45 := ⟨1, rfl, Or.inr rfl, rfl⟩
set_option maxRecDepth 100000 in
theorem lk120_45 : xAt kT120 45 (.ireturn) 46 := ⟨1, rfl, Or.inr rfl, rfl⟩
set_option maxRecDepth 100000 in
theorem lk120_46 : xAt kT120 46 (.iinc 2 1) 49 := ⟨3, rfl, Or.inr rfl, rfl⟩
set_option maxRecDepth 100000 in
theorem lk120_49 : xAt kT120 49 (.goto (-47)) 52 := ⟨3, rfl, Or.inr rfl, rfl⟩
set_option maxRecDepth 100000 in
theorem lk120_52 : xAt kT120 52 (.iconst (-1)) 53 := ⟨1, rfl, Or.inr rfl, rfl⟩
set_option maxRecDepth 100000 in
theorem lk120_53 : xAt kT120 53 (.ireturn) 54 := ⟨1, rfl, Or.inr rfl, rfl⟩
set_option maxRecDepth 100000 in
theorem lk62_0 : xAt kT62 0 (.aload_n 0) 1 := ⟨1, rfl, Or.inr rfl, rfl⟩
set_option maxRecDepth 100000 in
theorem lk62_1 : xAt kT62 1 (.invokevirtual 57) 4 := ⟨3, rfl, Or.inr rfl, rfl⟩
set_option maxRecDepth 100000 in
theorem lk62_4 : xAt kT62 4 (.sipush 300) 7 := ⟨3, rfl, Or.inr rfl, rfl⟩
set_option maxRecDepth 100000 in
theorem lk62_7 : xAt kT62 7 (.if_icmp .lt 4) 10 := ⟨3, rfl, Or.inr rfl, rfl⟩
set_option maxRecDepth 100000 in
theorem lk62_10 : xAt kT62 10 (.return_) 11 := ⟨1, rfl, Or.inr rfl, rfl⟩
set_option maxRecDepth 100000 in
theorem lk62_11 : xAt kT62 11 (.aload_n 1) 12 := ⟨1, rfl, Or.inr rfl, rfl⟩
set_option maxRecDepth 100000 in
theorem lk62_12 : xAt kT62 12 (.iload_n 2) 13 := ⟨1, rfl, Or.inr rfl, rfl⟩
set_option maxRecDepth 100000 in
theorem lk62_13 : xAt kT62 13 (.aload_n 0) 14 := ⟨1, rfl, Or.inr rfl, rfl⟩
set_option maxRecDepth 100000 in
theorem lk62_14 : xAt kT62 14 (.getfield 9) 17 := ⟨3, rfl, Or.inr rfl, rfl⟩
set_option maxRecDepth 100000 in
theorem lk62_17 : xAt kT62 17 (.aload_n 0) 18 := ⟨1, rfl, Or.inr rfl, rfl⟩
set_option maxRecDepth 100000 in
theorem lk62_18 : xAt kT62 18 (.invokevirtual 57) 21 := ⟨3, rfl, Or.inr rfl, rfl⟩
set_option maxRecDepth 100000 in
theorem lk62_21 : xAt kT62 21 (.bipush 6) 23 := ⟨2, rfl, Or.inr rfl, rfl⟩
set_option maxRecDepth 100000 in
theorem lk62_23 : xAt kT62 23 (.imul) 24 := ⟨1, rfl, Or.inr rfl, rfl⟩
set_option maxRecDepth 100000 in
theorem lk62_24 : xAt kT62 24 (.bipush 6) 26 := ⟨2, rfl, Or.inr rfl, rfl⟩
set_option maxRecDepth 100000 in
theorem lk62_26 : xAt kT62 26 (.invokestatic 61) 29 := ⟨3, rfl, Or.inr rfl, rfl⟩
set_option maxRecDepth 100000 in
theorem lk62_29 : xAt kT62 29 (.aload_n 0) 30 := ⟨1, rfl, Or.inr rfl, rfl⟩
set_option maxRecDepth 100000 in
theorem lk62_30 : xAt kT62 30 (.dup) 31 := ⟨1, rfl, Or.inr rfl, rfl⟩
set_option maxRecDepth 100000 in
theorem lk62_31 : xAt kT62 31 (.getfield 34) 34 := ⟨3, rfl, Or.inr rfl, rfl⟩
set_option maxRecDepth 100000 in
theorem lk62_34 : xAt kT62 34 (.iconst 1) 35 := ⟨1, rfl, Or.inr rfl, rfl⟩
set_option maxRecDepth 100000 in
theorem lk62_35 : xAt kT62 35 (.iadd) 36 := ⟨1, rfl, Or.inr rfl, rfl⟩
set_option maxRecDepth 100000 in
theorem lk62_36 : xAt kT62 36 (.putfield 34) 39 := ⟨3, rfl, Or.inr rfl, rfl⟩
set_option maxRecDepth 100000 in
theorem lk62_39 : xAt kT62 39 (.aload_n 1) 40 := ⟨1, rfl, Or.inr rfl, rfl⟩
set_option maxRecDepth 100000 in
theorem lk62_40 : xAt kT62 40 (.iload_n 2) 41 := ⟨1, rfl, Or.inr rfl, rfl⟩
set_option maxRecDepth 100000 in
theorem lk62_41 : xAt kT62 41 (.iconst 1) 42 := ⟨1, rfl, Or.inr rfl, rfl⟩
set_option maxRecDepth 100000 in
theorem lk62_42 : xAt kT62 42 (.iadd) 43 := ⟨1, rfl, Or.inr rfl, rfl⟩
set_option maxRecDepth 100000 in
theorem lk62_43 : xAt kT62 43 (.iaload) 44 := ⟨1, rfl, Or.inr rfl, rfl⟩
set_option maxRecDepth 100000 in
theorem lk62_44 : xAt kT62 44 (.iconst 1) 45 := ⟨1, rfl, Or.inr rfl, rfl⟩
set_option maxRecDepth 100000 in
theorem lk62_45 : xAt kT62 45 (.if_icmp .ne 20) 48 := ⟨3, rfl, Or.inr rfl, rfl⟩
set_option maxRecDepth 100000 in
theorem lk62_48 : xAt kT62 48 (.aload_n 0) 49 := ⟨1, rfl, Or.inr rfl, rfl⟩
set_option maxRecDepth 100000 in
theorem lk62_49 : xAt kT62 49 (.aload_n 1) 50 := ⟨1, rfl, Or.inr rfl, rfl⟩
set_option maxRecDepth 100000 in
theorem lk62_50 : xAt kT62 50 (.iload_n 2) 51 := ⟨1, rfl, Or.inr rfl, rfl⟩
set_option maxRecDepth 100000 in
theorem lk62_51 : xAt kT62 51 (.iconst 3) 52 := ⟨1, rfl, Or.inr rfl, rfl⟩
set_option maxRecDepth 100000 in
theorem lk62_52 : xAt kT62 52 (.iadd) 53 := ⟨1, rfl, Or.inr rfl, rfl⟩
set_option maxRecDepth 100000 in
theorem lk62_53 : xAt kT62 53 (.iaload) 54 := ⟨1, rfl, Or.inr rfl, rfl⟩
set_option maxRecDepth 100000 in
theorem lk62_54 : xAt kT62 54 (.putfield 25) 57 := ⟨3, rfl, Or.inr rfl, rfl⟩
set_option maxRecDepth 100000 in
theorem lk62_57 : xAt kT62 57 (.aload_n 0) 58 := ⟨1, rfl, Or.inr rfl, rfl⟩
set_option maxRecDepth 100000 in
theorem lk62_58 : xAt kT62 58 (.aload_n 0) 59 := ⟨1, rfl, Or.inr rfl, rfl⟩
set_option maxRecDepth 100000 in
theorem lk62_59 : xAt kT62 59 (.getfield 34) 62 := ⟨3, rfl, Or.inr rfl, rfl⟩
set_option maxRecDepth 100000 in
theorem lk62_62 : xAt kT62 62 (.putfield 67) 65 := ⟨3, rfl, Or.inr rfl, rfl⟩
set_option maxRecDepth 100000 in
theorem lk62_65 : xAt kT62 65 (.return_) 66 := ⟨1, rfl, Or.inr rfl, rfl⟩
