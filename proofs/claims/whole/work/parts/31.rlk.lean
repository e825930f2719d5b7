/-! printed by wip/whole/gen_ref.py: where an instruction stands -/
set_option maxRecDepth 100000 in
theorem lk241_0 : xAt kT241 0 (.aload_n 0) 1 := ⟨1, rfl, Or.inr rfl, rfl⟩
set_option maxRecDepth 100000 in
theorem lk241_1 : xAt kT241 1 (.getfield 65) 4 := ⟨3, rfl, Or.inr rfl, rfl⟩
set_option maxRecDepth 100000 in
theorem lk241_4 : xAt kT241 4 (.iload_n 1) 5 := ⟨1, rfl, Or.inr rfl, rfl⟩
set_option maxRecDepth 100000 in
theorem lk241_5 : xAt kT241 5 (.iload_n 2) 6 := ⟨1, rfl, Or.inr rfl, rfl⟩
set_option maxRecDepth 100000 in
theorem lk241_6 : xAt kT241 6 (.iastore) 7 := ⟨1, rfl, Or.inr rfl, rfl⟩
set_option maxRecDepth 100000 in
theorem lk241_7 : xAt kT241 7 (.aload_n 0) 8 := ⟨1, rfl, Or.inr rfl, rfl⟩
set_option maxRecDepth 100000 in
theorem lk241_8 : xAt kT241 8 (.getfield 62) 11 := ⟨3, rfl, Or.inr rfl, rfl⟩
set_option maxRecDepth 100000 in
theorem lk241_11 : xAt kT241 11 (.iload_n 1) 12 := ⟨1, rfl, Or.inr rfl, rfl⟩
set_option maxRecDepth 100000 in
theorem lk241_12 : xAt kT241 12 (.aload_n 0) 13 := ⟨1, rfl, Or.inr rfl, rfl⟩
set_option maxRecDepth 100000 in
theorem lk241_13 : xAt kT241 13 (.getfield 421) 16 := ⟨3, rfl, Or.inr rfl, rfl⟩
set_option maxRecDepth 100000 in
theorem lk241_16 : xAt kT241 16 (.iastore) 17 := ⟨1, rfl, Or.inr rfl, rfl⟩
set_option maxRecDepth 100000 in
theorem lk241_17 : xAt kT241 17 (.aload_n 0) 18 := ⟨1, rfl, Or.inr rfl, rfl⟩
set_option maxRecDepth 100000 in
theorem lk241_18 : xAt kT241 18 (.dup) 19 := ⟨1, rfl, Or.inr rfl, rfl⟩
set_option maxRecDepth 100000 in
theorem lk241_19 : xAt kT241 19 (.getfield 421) 22 := ⟨3, rfl, Or.inr rfl, rfl⟩
set_option maxRecDepth 100000 in
theorem lk241_22 : xAt kT241 22 (.iconst 1) 23 := ⟨1, rfl, Or.inr rfl, rfl⟩
set_option maxRecDepth 100000 in
theorem lk241_23 : xAt kT241 23 (.iadd) 24 := ⟨1, rfl, Or.inr rfl, rfl⟩
set_option maxRecDepth 100000 in
theorem lk241_24 : xAt kT241 24 (.putfield 421) 27 := ⟨3, rfl, Or.inr rfl, rfl⟩
set_option maxRecDepth 100000 in
theorem lk241_27 : xAt kT241 27 (.return_) 28 := ⟨1, rfl, Or.inr rfl, rfl⟩
set_option maxRecDepth 100000 in
theorem lk294_0 : xAt kT294 0 (.lload_n 0) 1 := ⟨1, rfl, Or.inr rfl, rfl⟩
set_option maxRecDepth 100000 in
theorem lk294_1 : xAt kT294 1 (.lload_n 2) 2 := ⟨1, rfl, Or.inr rfl, rfl⟩
set_option maxRecDepth 100000 in
theorem lk294_2 : xAt kT294 2 (.lcmp) 3 := ⟨1, rfl, Or.inr rfl, rfl⟩
set_option maxRecDepth 100000 in
theorem lk294_3 : xAt kT294 3 (.ifCond .lt 14) 6 := ⟨3, rfl, Or.inr rfl, rfl⟩
set_option maxRecDepth 100000 in
theorem lk294_6 : xAt kT294 6 (.lload_n 0) 7 := ⟨1, rfl, Or.inr rfl, rfl⟩
set_option maxRecDepth 100000 in
theorem lk294_7 : xAt kT294 7 (.lload 4) 9 := ⟨2, rfl, Or.inr rfl, rfl⟩
set_option maxRecDepth 100000 in
theorem lk294_9 : xAt kT294 9 (.lcmp) 10 := ⟨1, rfl, Or.inr rfl, rfl⟩
set_option maxRecDepth 100000 in
theorem lk294_10 : xAt kT294 10 (.ifCond .gt 7) 13 := ⟨3, rfl, Or.inr rfl, rfl⟩
set_option maxRecDepth 100000 in
theorem lk294_13 : xAt kT294 13 (.iconst 1) 14 := ⟨1, rfl, Or.inr rfl, rfl⟩
set_option maxRecDepth 100000 in
theorem lk294_14 : xAt kT294 14 (.goto 4) 17 := ⟨3, rfl, Or.inr rfl, rfl⟩
set_option maxRecDepth 100000 in
theorem lk294_17 : xAt kT294 17 (.iconst 0) 18 := ⟨1, rfl, Or.inr rfl, rfl⟩
set_option maxRecDepth 100000 in
theorem lk294_18 : xAt kT294 18 (.ireturn) 19 := ⟨1, rfl, Or.inr rfl, rfl⟩
set_option maxRecDepth 100000 in
theorem lk359_0 : xAt kT359 0 (.iconst 0) 1 := ⟨1, rfl, Or.inr rfl, rfl⟩
set_option maxRecDepth 100000 in
theorem lk359_1 : xAt kT359 1 (.istore_n 1) 2 := ⟨1, rfl, Or.inr rfl, rfl⟩
set_option maxRecDepth 100000 in
theorem lk359_2 : xAt kT359 2 (.iconst 0) 3 := ⟨1, rfl, Or.inr rfl, rfl⟩
set_option maxRecDepth 100000 in
theorem lk359_3 : xAt kT359 3 (.istore_n 2) 4 := ⟨1, rfl, Or.inr rfl, rfl⟩
set_option maxRecDepth 100000 in
theorem lk359_4 : xAt kT359 4 (.iload_n 2) 5 := ⟨1, rfl, Or.inr rfl, rfl⟩
set_option maxRecDepth 100000 in
theorem lk359_5 : xAt kT359 5 (.bipush 7) 7 := ⟨2, rfl, Or.inr rfl, rfl⟩
set_option maxRecDepth 100000 in
theorem lk359_7 : xAt kT359 7 (.if_icmp .ge 17) 10 := ⟨3, rfl, Or.inr rfl, rfl⟩
set_option maxRecDepth 100000 in
theorem lk359_10 : xAt kT359 10 (.iload_n 1) 11 := ⟨1, rfl, Or.inr rfl, rfl⟩
set_option maxRecDepth 100000 in
theorem lk359_11 : xAt kT359 11 (.iload_n 0) 12 := ⟨1, rfl, Or.inr rfl, rfl⟩
set_option maxRecDepth 100000 in
theorem lk359_12 : xAt kT359 12 (.iload_n 2) 13 := ⟨1, rfl, Or.inr rfl, rfl⟩
set_option maxRecDepth 100000 in
theorem lk359_13 : xAt kT359 13 (.ishr) 14 := ⟨1, rfl, Or.inr rfl, rfl⟩
set_option maxRecDepth 100000 in
theorem lk359_14 : xAt kT359 14 (.iconst 1) 15 := ⟨1, rfl, Or.inr rfl, rfl⟩
set_option maxRecDepth 100000 in
theorem lk359_15 : xAt kT359 15 (.iand) 16 := ⟨1, rfl, Or.inr rfl, rfl⟩
set_option maxRecDepth 100000 in
theorem lk359_16 : xAt kT359 16 (.iadd) 17 := ⟨1, rfl, Or.inr rfl, rfl⟩
set_option maxRecDepth 100000 in
theorem lk359_17 : xAt kT359 17 (.istore_n 1) 18 := ⟨1, rfl, Or.inr rfl, rfl⟩
set_option maxRecDepth 100000 in
theorem lk359_18 : xAt kT359 18 (.iinc 2 1) 21 := ⟨3, rfl, Or.inr rfl, rfl⟩
set_option maxRecDepth 100000 in
theorem lk359_21 : xAt kT359 21 (.goto (-17)) 24 := ⟨3, rfl, Or.inr rfl, rfl⟩
set_option maxRecDepth 100000 in
theorem lk359_24 : xAt kT359 24 (.iload_n 1) 25 := ⟨1, rfl, Or.inr rfl, rfl⟩
set_option maxRecDepth 100000 in
theorem lk359_25 : xAt kT359 25 (.ireturn) 26 := ⟨1, rfl, Or.inr rfl, rfl⟩
set_option maxRecDepth 100000 in
theorem lk247_0 : xAt kT247 0 (.aload_n 0) 1 := ⟨1, rfl, Or.inr rfl, rfl⟩
set_option maxRecDepth 100000 in
theorem lk247_1 : xAt kT247 1 (.getfield 400) 4 := ⟨3, rfl, Or.inr rfl, rfl⟩
set_option maxRecDepth 100000 in
theorem lk247_4 : xAt kT247 4 (.iload_n 1) 5 := ⟨1, rfl, Or.inr rfl, rfl⟩
set_option maxRecDepth 100000 in
theorem lk247_5 : xAt kT247 5 (.ishr) 6 := ⟨1, rfl, Or.inr rfl, rfl⟩
set_option maxRecDepth 100000 in
theorem lk247_6 : xAt kT247 6 (.iconst 1) 7 := ⟨1, rfl, Or.inr rfl, rfl⟩
set_option maxRecDepth 100000 in
theorem lk247_7 : xAt kT247 7 (.iand) 8 := ⟨1, rfl, Or.inr rfl, rfl⟩
set_option maxRecDepth 100000 in
theorem lk247_8 : xAt kT247 8 (.aload_n 0) 9 := ⟨1, rfl, Or.inr rfl, rfl⟩
set_option maxRecDepth 100000 in
theorem lk247_9 : xAt kT247 9 (.getfield 400) 12 := ⟨3, rfl, Or.inr rfl, rfl⟩
set_option maxRecDepth 100000 in
theorem lk247_12 : xAt kT247 12 (.iload_n 2) 13 := ⟨1, rfl, Or.inr rfl, rfl⟩
set_option maxRecDepth 100000 in
theorem lk247_13 : xAt kT247 13 (.ishr) 14 := ⟨1, rfl, Or.inr rfl, rfl⟩
set_option maxRecDepth 100000 in
theorem lk247_14 : xAt kT247 14 (.iconst 1) 15 := ⟨1, rfl, Or.inr rfl, rfl⟩
set_option maxRecDepth 100000 in
theorem lk247_15 : xAt kT247 15 (.iand) 16 := ⟨1, rfl, Or.inr rfl, rfl⟩
set_option maxRecDepth 100000 in
theorem lk247_16 : xAt kT247 16 (.if_icmp .eq 7) 19 := ⟨3, rfl, Or.inr rfl, rfl⟩
set_option maxRecDepth 100000 in
theorem lk247_19 : xAt kT247 19 (.iconst 1) 20 := ⟨1, rfl, Or.inr rfl, rfl⟩
set_option maxRecDepth 100000 in
theorem lk247_20 : xAt kT247 20 (.goto 4) 23 := ⟨3, rfl, Or.inr rfl, rfl⟩
set_option maxRecDepth 100000 in
theorem lk247_23 : xAt kT247 23 (.iconst 0) 24 := ⟨1, rfl, Or.inr rfl, rfl⟩
set_option maxRecDepth 100000 in
theorem lk247_24 : xAt kT247 24 (.ireturn) 25 := ⟨1, rfl, Or.inr rfl, rfl⟩
set_option maxRecDepth 100000 in
theorem lk273_0 : xAt kT273 0 (.aload_n 0) 1 := ⟨1, rfl, Or.inr rfl, rfl⟩
set_option maxRecDepth 100000 in
theorem lk273_1 : xAt kT273 1 (.aload_n 0) 2 := ⟨1, rfl, Or.inr rfl, rfl⟩
set_option maxRecDepth 100000 in
theorem lk273_2 : xAt kT273 2 (.getfield 403) 5 := ⟨3, rfl, Or.inr rfl, rfl⟩
set_option maxRecDepth 100000 in
theorem lk273_5 : xAt kT273 5 (.ldc2_w 407) 8 := ⟨3, rfl, Or.inr rfl, rfl⟩
set_option maxRecDepth 100000 in
theorem lk273_8 : xAt kT273 8 (.lmul) 9 := ⟨1, rfl, Or.inr rfl, rfl⟩
set_option maxRecDepth 100000 in
theorem lk273_9 : xAt kT273 9 (.ldc2_w 409) 12 := ⟨3, rfl, Or.inr rfl, rfl⟩
set_option maxRecDepth 100000 in
theorem lk273_12 : xAt kT273 12 (.ladd) 13 := ⟨1, rfl, Or.inr rfl, rfl⟩
set_option maxRecDepth 100000 in
theorem lk273_13 : xAt kT273 13 (.putfield 403) 16 := ⟨3, rfl, Or.inr rfl, rfl⟩
set_option maxRecDepth 100000 in
theorem lk273_16 : xAt kT273 16 (.aload_n 0) 17 := ⟨1, rfl, Or.inr rfl, rfl⟩
set_option maxRecDepth 100000 in
theorem lk273_17 : xAt kT273 17 (.getfield 403) 20 := ⟨3, rfl, Or.inr rfl, rfl⟩
set_option maxRecDepth 100000 in
theorem lk273_20 : xAt kT273 20 (.bipush 33) 22 := ⟨2, rfl, Or.inr rfl, rfl⟩
set_option maxRecDepth 100000 in
theorem lk273_22 : xAt kT273 22 (.lushr) 23 := ⟨1, rfl, Or.inr rfl, rfl⟩
set_option maxRecDepth 100000 in
theorem lk273_23 : xAt kT273 23 (.iload_n 1) 24 := ⟨1, rfl, Or.inr rfl, rfl⟩
set_option maxRecDepth 100000 in
theorem lk273_24 : xAt kT273 24 (.i2l) 25 := ⟨1, rfl, Or.inr rfl, rfl⟩
set_option maxRecDepth 100000 in
theorem lk273_25 : xAt kT273 25 (.lrem) 26 := ⟨1, rfl, Or.inr rfl, rfl⟩
set_option maxRecDepth 100000 in
theorem lk273_26 : xAt kT273 26 (.l2i) 27 := ⟨1, rfl, Or.inr rfl, rfl⟩
set_option maxRecDepth 100000 in
theorem lk273_27 : xAt kT273 27 (.ireturn) 28 := ⟨1, rfl, Or.inr rfl, rfl⟩
set_option maxRecDepth 100000 in
theorem lk280_0 : xAt kT280 0 (.iconst 2) 1 := ⟨1, rfl, Or.inr rfl, rfl⟩
set_option maxRecDepth 100000 in
theorem lk280_1 : xAt kT280 1 (.bipush 16) 3 := ⟨2, rfl, Or.inr rfl, rfl⟩
set_option maxRecDepth 100000 in
theorem lk280_3 : xAt kT280 3 (.iload_n 0) 4 := ⟨1, rfl, Or.inr rfl, rfl⟩
set_option maxRecDepth 100000 in
theorem lk280_4 : xAt kT280 4 (.imul) 5 := ⟨1, rfl, Or.inr rfl, rfl⟩
set_option maxRecDepth 100000 in
theorem lk280_5 : xAt kT280 5 (.iload_n 1) 6 := ⟨1, rfl, Or.inr rfl, rfl⟩
set_option maxRecDepth 100000 in
theorem lk280_6 : xAt kT280 6 (.iadd) 7 := ⟨1, rfl, Or.inr rfl, rfl⟩
set_option maxRecDepth 100000 in
theorem lk280_7 : xAt kT280 7 (.imul) 8 := ⟨1, rfl, Or.inr rfl, rfl⟩
set_option maxRecDepth 100000 in
theorem lk280_8 : xAt kT280 8 (.ireturn) 9 := ⟨1, rfl, Or.inr rfl, rfl⟩
set_option maxRecDepth 100000 in
theorem lk314_0 : xAt kT314 0 (.bipush 8) 2 := ⟨2, rfl, Or.inr rfl, rfl⟩
set_option maxRecDepth 100000 in
theorem lk314_2 : xAt kT314 2 (.iload_n 1) 3 := ⟨1, rfl, Or.inr rfl, rfl⟩
set_option maxRecDepth 100000 in
theorem lk314_3 : xAt kT314 3 (.bipush 7) 5 := ⟨2, rfl, Or.inr rfl, rfl⟩
set_option maxRecDepth 100000 in
theorem lk314_5 : xAt kT314 5 (.iand) 6 := ⟨1, rfl, Or.inr rfl, rfl⟩
set_option maxRecDepth 100000 in
theorem lk314_6 : xAt kT314 6 (.imul) 7 := ⟨1, rfl, Or.inr rfl, rfl⟩
set_option maxRecDepth 100000 in
theorem lk314_7 : xAt kT314 7 (.istore_n 3) 8 := ⟨1, rfl, Or.inr rfl, rfl⟩
set_option maxRecDepth 100000 in
theorem lk314_8 : xAt kT314 8 (.aload_n 0) 9 := ⟨1, rfl, Or.inr rfl, rfl⟩
set_option maxRecDepth 100000 in
theorem lk314_9 : xAt kT314 9 (.getfield 75) 12 := ⟨3, rfl, Or.inr rfl, rfl⟩
set_option maxRecDepth 100000 in
theorem lk314_12 : xAt kT314 12 (.iload_n 1) 13 := ⟨1, rfl, Or.inr rfl, rfl⟩
set_option maxRecDepth 100000 in
theorem lk314_13 : xAt kT314 13 (.iconst 3) 14 := ⟨1, rfl, Or.inr rfl, rfl⟩
set_option maxRecDepth 100000 in
theorem lk314_14 : xAt kT314 14 (.ishr) 15 := ⟨1, rfl, Or.inr rfl, rfl⟩
set_option maxRecDepth 100000 in
theorem lk314_15 : xAt kT314 15 (.aload_n 0) 16 := ⟨1, rfl, Or.inr rfl, rfl⟩
set_option maxRecDepth 100000 in
theorem lk314_16 : xAt kT314 16 (.getfield 75) 19 := ⟨3, rfl, Or.inr rfl, rfl⟩
set_option maxRecDepth 100000 in
theorem lk314_19 : xAt kT314 19 (.iload_n 1) 20 := ⟨1, rfl, Or.inr rfl, rfl⟩
set_option maxRecDepth 100000 in
theorem lk314_20 : xAt kT314 20 (.iconst 3) 21 := ⟨1, rfl, Or.inr rfl, rfl⟩
set_option maxRecDepth 100000 in
theorem lk314_21 : xAt kT314 21 (.ishr) 22 := ⟨1, rfl, Or.inr rfl, rfl⟩
set_option maxRecDepth 100000 in
theorem lk314_22 : xAt kT314 22 (.laload) 23 := ⟨1, rfl, Or.inr rfl, rfl⟩
set_option maxRecDepth 100000 in
theorem lk314_23 : xAt kT314 23 (.ldc2_w 396) 26 := ⟨3, rfl, Or.inr rfl, rfl⟩
set_option maxRecDepth 100000 in
theorem lk314_26 : xAt kT314 26 (.iload_n 3) 27 := ⟨1, rfl, Or.inr rfl, rfl⟩
set_option maxRecDepth 100000 in
theorem lk314_27 : xAt kT314 27 (.lshl) 28 := ⟨1, rfl, Or.inr rfl, rfl⟩
set_option maxRecDepth 100000 in
theorem lk314_28 : xAt kT314 28 (.ldc2_w 398) 31 := ⟨3, rfl, Or.inr rfl, rfl⟩
set_option maxRecDepth 100000 in
theorem lk314_31 : xAt kT314 31 (.lxor) 32 := ⟨1, rfl, Or.inr rfl, rfl⟩
set_option maxRecDepth 100000 in
theorem lk314_32 : xAt kT314 32 (.land) 33 := ⟨1, rfl, Or.inr rfl, rfl⟩
set_option maxRecDepth 100000 in
theorem lk314_33 : xAt kT314 33 (.iload_n 2) 34 := ⟨1, rfl, Or.inr rfl, rfl⟩
set_option maxRecDepth 100000 in
theorem lk314_34 : xAt kT314 34 (.i2l) 35 := ⟨1, rfl, Or.inr rfl, rfl⟩
set_option maxRecDepth 100000 in
theorem lk314_35 : xAt kT314 35 (.ldc2_w 396) 38 := ⟨3, rfl, Or.inr rfl, rfl⟩
set_option maxRecDepth 100000 in
theorem lk314_38 : xAt kT314 38 (.land) 39 := ⟨1, rfl, Or.inr rfl, rfl⟩
set_option maxRecDepth 100000 in
theorem lk314_39 : xAt kT314 39 (.iload_n 3) 40 := ⟨1, rfl, Or.inr rfl, rfl⟩
set_option maxRecDepth 100000 in
theorem lk314_40 : xAt kT314 40 (.lshl) 41 := ⟨1, rfl, Or.inr rfl, rfl⟩
set_option maxRecDepth 100000 in
theorem lk314_41 : xAt kT314 41 (.lor) 42 := ⟨1, rfl, Or.inr rfl, rfl⟩
set_option maxRecDepth 100000 in
theorem lk314_42 : xAt kT314 42 (.lastore) 43 := ⟨1, rfl, Or.inr rfl, rfl⟩
set_option maxRecDepth 100000 in
theorem lk314_43 : xAt kT314 43 (.return_) 44 := ⟨1, rfl, Or.inr rfl, rfl⟩
set_option maxRecDepth 100000 in
theorem lk360_0 : xAt kT360 0 (.aload_n 0) 1 := ⟨1, rfl, Or.inr rfl, rfl⟩
set_option maxRecDepth 100000 in
theorem lk360_1 : xAt kT360 1 (.getfield 179) 4 := ⟨3, rfl, Or.inr rfl, rfl⟩
set_option maxRecDepth 100000 in
theorem lk360_4 : xAt kT360 4 (.iload_n 1) 5 := ⟨1, rfl, Or.inr rfl, rfl⟩
set_option maxRecDepth 100000 in
theorem lk360_5 : xAt kT360 5 (.baload) 6 := ⟨1, rfl, Or.inr rfl, rfl⟩
set_option maxRecDepth 100000 in
theorem lk360_6 : xAt kT360 6 (.ifCond .eq 4) 9 := ⟨3, rfl, Or.inr rfl, rfl⟩
set_option maxRecDepth 100000 in
theorem lk360_9 : xAt kT360 9 (.return_) 10 := ⟨1, rfl, Or.inr rfl, rfl⟩
set_option maxRecDepth 100000 in
theorem lk360_10 : xAt kT360 10 (.aload_n 0) 11 := ⟨1, rfl, Or.inr rfl, rfl⟩
set_option maxRecDepth 100000 in
theorem lk360_11 : xAt kT360 11 (.getfield 179) 14 := ⟨3, rfl, Or.inr rfl, rfl⟩
set_option maxRecDepth 100000 in
theorem lk360_14 : xAt kT360 14 (.iload_n 1) 15 := ⟨1, rfl, Or.inr rfl, rfl⟩
set_option maxRecDepth 100000 in
theorem lk360_15 : xAt kT360 15 (.iconst 1) 16 := ⟨1, rfl, Or.inr rfl, rfl⟩
set_option maxRecDepth 100000 in
theorem lk360_16 : xAt kT360 16 (.bastore) 17 := ⟨1, rfl, Or.inr rfl, rfl⟩
set_option maxRecDepth 100000 in
theorem lk360_17 : xAt kT360 17 (.aload_n 0) 18 := ⟨1, rfl, Or.inr rfl, rfl⟩
set_option maxRecDepth 100000 in
theorem lk360_18 : xAt kT360 18 (.getfield 71) 21 := ⟨3, rfl, Or.inr rfl, rfl⟩
set_option maxRecDepth 100000 in
theorem lk360_21 : xAt kT360 21 (.iload_n 1) 22 := ⟨1, rfl, Or.inr rfl, rfl⟩
set_option maxRecDepth 100000 in
theorem lk360_22 : xAt kT360 22 (.aload_n 0) 23 := ⟨1, rfl, Or.inr rfl, rfl⟩
set_option maxRecDepth 100000 in
theorem lk360_23 : xAt kT360 23 (.getfield 431) 26 := ⟨3, rfl, Or.inr rfl, rfl⟩
set_option maxRecDepth 100000 in
theorem lk360_26 : xAt kT360 26 (.aload_n 0) 27 := ⟨1, rfl, Or.inr rfl, rfl⟩
set_option maxRecDepth 100000 in
theorem lk360_27 : xAt kT360 27 (.getfield 182) 30 := ⟨3, rfl, Or.inr rfl, rfl⟩
set_option maxRecDepth 100000 in
theorem lk360_30 : xAt kT360 30 (.iload_n 1) 31 := ⟨1, rfl, Or.inr rfl, rfl⟩
set_option maxRecDepth 100000 in
theorem lk360_31 : xAt kT360 31 (.iaload) 32 := ⟨1, rfl, Or.inr rfl, rfl⟩
set_option maxRecDepth 100000 in
theorem lk360_32 : xAt kT360 32 (.iadd) 33 := ⟨1, rfl, Or.inr rfl, rfl⟩
set_option maxRecDepth 100000 in
theorem lk360_33 : xAt kT360 33 (.iastore) 34 := ⟨1, rfl, Or.inr rfl, rfl⟩
set_option maxRecDepth 100000 in
theorem lk360_34 : xAt kT360 34 (.aload_n 0) 35 := ⟨1, rfl, Or.inr rfl, rfl⟩
set_option maxRecDepth 100000 in
theorem lk360_35 : xAt kT360 35 (.getfield 68) 38 := ⟨3, rfl, Or.inr rfl, rfl⟩
set_option maxRecDepth 100000 in
theorem lk360_38 : xAt kT360 38 (.iload_n 1) 39 := ⟨1, rfl, Or.inr rfl, rfl⟩
set_option maxRecDepth 100000 in
theorem lk360_39 : xAt kT360 39 (.aload_n 0) 40 := ⟨1, rfl, Or.inr rfl, rfl⟩
set_option maxRecDepth 100000 in
theorem lk360_40 : xAt kT360 40 (.getfield 421) 43 := ⟨3, rfl, Or.inr rfl, rfl⟩
set_option maxRecDepth 100000 in
theorem lk360_43 : xAt kT360 43 (.iastore) 44 := ⟨1, rfl, Or.inr rfl, rfl⟩
set_option maxRecDepth 100000 in
theorem lk360_44 : xAt kT360 44 (.aload_n 0) 45 := ⟨1, rfl, Or.inr rfl, rfl⟩
set_option maxRecDepth 100000 in
theorem lk360_45 : xAt kT360 45 (.dup) 46 := ⟨1, rfl, Or.inr rfl, rfl⟩
set_option maxRecDepth 100000 in
theorem lk360_46 : xAt kT360 46 (.getfield 421) 49 := ⟨3, rfl, Or.inr rfl, rfl⟩
set_option maxRecDepth 100000 in
theorem lk360_49 : xAt kT360 49 (.iconst 1) 50 := ⟨1, rfl, Or.inr rfl, rfl⟩
set_option maxRecDepth 100000 in
theorem lk360_50 : xAt kT360 50 (.iadd) 51 := ⟨1, rfl, Or.inr rfl, rfl⟩
set_option maxRecDepth 100000 in
theorem lk360_51 : xAt kT360 51 (.putfield 421) 54 := ⟨3, rfl, Or.inr rfl, rfl⟩
set_option maxRecDepth 100000 in
theorem lk360_54 : xAt kT360 54 (.return_) 55 := ⟨1, rfl, Or.inr rfl, rfl⟩
set_option maxRecDepth 100000 in
theorem lk274_0 : xAt kT274 0 (.aload_n 0) 1 := ⟨1, rfl, Or.inr rfl, rfl⟩
set_option maxRecDepth 100000 in
theorem lk274_1 : xAt kT274 1 (.getfield 218) 4 := ⟨3, rfl, Or.inr rfl, rfl⟩
set_option maxRecDepth 100000 in
theorem lk274_4 : xAt kT274 4 (.iload_n 1) 5 := ⟨1, rfl, Or.inr rfl, rfl⟩
set_option maxRecDepth 100000 in
theorem lk274_5 : xAt kT274 5 (.aload_n 0) 6 := ⟨1, rfl, Or.inr rfl, rfl⟩
set_option maxRecDepth 100000 in
theorem lk274_6 : xAt kT274 6 (.getfield 218) 9 := ⟨3, rfl, Or.inr rfl, rfl⟩
set_option maxRecDepth 100000 in
theorem lk274_9 : xAt kT274 9 (.iload_n 1) 10 := ⟨1, rfl, Or.inr rfl, rfl⟩
set_option maxRecDepth 100000 in
theorem lk274_10 : xAt kT274 10 (.laload) 11 := ⟨1, rfl, Or.inr rfl, rfl⟩
set_option maxRecDepth 100000 in
theorem lk274_11 : xAt kT274 11 (.ldc2_w 407) 14 := ⟨3, rfl, Or.inr rfl, rfl⟩
set_option maxRecDepth 100000 in
theorem lk274_14 : xAt kT274 14 (.lmul) 15 := ⟨1, rfl, Or.inr rfl, rfl⟩
set_option maxRecDepth 100000 in
theorem lk274_15 : xAt kT274 15 (.ldc2_w 409) 18 := ⟨3, rfl, Or.inr rfl, rfl⟩
set_option maxRecDepth 100000 in
theorem lk274_18 : xAt kT274 18 (.ladd) 19 := ⟨1, rfl, Or.inr rfl, rfl⟩
set_option maxRecDepth 100000 in
theorem lk274_19 : xAt kT274 19 (.lastore) 20 := ⟨1, rfl, Or.inr rfl, rfl⟩
set_option maxRecDepth 100000 in
theorem lk274_20 : xAt kT274 20 (.aload_n 0) 21 := ⟨1, rfl, Or.inr rfl, rfl⟩
set_option maxRecDepth 100000 in
theorem lk274_21 : xAt kT274 21 (.iload_n 1) 22 := ⟨1, rfl, Or.inr rfl, rfl⟩
set_option maxRecDepth 100000 in
theorem lk274_22 : xAt kT274 22 (.aload_n 0) 23 := ⟨1, rfl, Or.inr rfl, rfl⟩
set_option maxRecDepth 100000 in
theorem lk274_23 : xAt kT274 23 (.getfield 431) 26 := ⟨3, rfl, Or.inr rfl, rfl⟩
set_option maxRecDepth 100000 in
theorem lk274_26 : xAt kT274 26 (.bipush 50) 28 := ⟨2, rfl, Or.inr rfl, rfl⟩
set_option maxRecDepth 100000 in
theorem lk274_28 : xAt kT274 28 (.iadd) 29 := ⟨1, rfl, Or.inr rfl, rfl⟩
set_option maxRecDepth 100000 in
theorem lk274_29 : xAt kT274 29 (.aload_n 0) 30 := ⟨1, rfl, Or.inr rfl, rfl⟩
set_option maxRecDepth 100000 in
theorem lk274_30 : xAt kT274 30 (.getfield 218) 33 := ⟨3, rfl, Or.inr rfl, rfl⟩
set_option maxRecDepth 100000 in
theorem lk274_33 : xAt kT274 33 (.iload_n 1) 34 := ⟨1, rfl, Or.inr rfl, rfl⟩
set_option maxRecDepth 100000 in
theorem lk274_34 : xAt kT274 34 (.laload) 35 := ⟨1, rfl, Or.inr rfl, rfl⟩
set_option maxRecDepth 100000 in
theorem lk274_35 : xAt kT274 35 (.bipush 33) 37 := ⟨2, rfl, Or.inr rfl, rfl⟩
set_option maxRecDepth 100000 in
theorem lk274_37 : xAt kT274 37 (.lushr) 38 := ⟨1, rfl, Or.inr rfl, rfl⟩
set_option maxRecDepth 100000 in
theorem lk274_38 : xAt kT274 38 (.ldc2_w 453) 41 := ⟨3, rfl, Or.inr rfl, rfl⟩
set_option maxRecDepth 100000 in
theorem lk274_41 : xAt kT274 41 (.lrem) 42 := ⟨1, rfl, Or.inr rfl, rfl⟩
set_option maxRecDepth 100000 in
theorem lk274_42 : xAt kT274 42 (.l2i) 43 := ⟨1, rfl, Or.inr rfl, rfl⟩
set_option maxRecDepth 100000 in
theorem lk274_43 : xAt kT274 43 (.iadd) 44 := ⟨1, rfl, Or.inr rfl, rfl⟩
set_option maxRecDepth 100000 in
theorem lk274_44 : xAt kT274 44 (.invokevirtual 455) 47 := ⟨3, rfl, Or.inr rfl, rfl⟩
set_option maxRecDepth 100000 in
theorem lk274_47 : xAt kT274 47 (.return_) 48 := ⟨1, rfl, Or.inr rfl, rfl⟩
set_option maxRecDepth 100000 in
theorem lk275_0 : xAt kT275 0 (.bipush 32) 2 := ⟨2, rfl, Or.inr rfl, rfl⟩
set_option maxRecDepth 100000 in
theorem lk275_2 : xAt kT275 2 (.iload_n 1) 3 := ⟨1, rfl, Or.inr rfl, rfl⟩
set_option maxRecDepth 100000 in
theorem lk275_3 : xAt kT275 3 (.imul) 4 := ⟨1, rfl, Or.inr rfl, rfl⟩
set_option maxRecDepth 100000 in
theorem lk275_4 : xAt kT275 4 (.istore_n 2) 5 := ⟨1, rfl, Or.inr rfl, rfl⟩
set_option maxRecDepth 100000 in
theorem lk275_5 : xAt kT275 5 (.iload_n 2) 6 := ⟨1, rfl, Or.inr rfl, rfl⟩
set_option maxRecDepth 100000 in
theorem lk275_6 : xAt kT275 6 (.bipush 32) 8 := ⟨2, rfl, Or.inr rfl, rfl⟩
set_option maxRecDepth 100000 in
theorem lk275_8 : xAt kT275 8 (.iload_n 1) 9 := ⟨1, rfl, Or.inr rfl, rfl⟩
set_option maxRecDepth 100000 in
theorem lk275_9 : xAt kT275 9 (.imul) 10 := ⟨1, rfl, Or.inr rfl, rfl⟩
set_option maxRecDepth 100000 in
theorem lk275_10 : xAt kT275 10 (.bipush 32) 12 := ⟨2, rfl, Or.inr rfl, rfl⟩
set_option maxRecDepth 100000 in
theorem lk275_12 : xAt kT275 12 (.iadd) 13 := ⟨1, rfl, Or.inr rfl, rfl⟩
set_option maxRecDepth 100000 in
theorem lk275_13 : xAt kT275 13 (.if_icmp .ge 16) 16 := ⟨3, rfl, Or.inr rfl, rfl⟩
set_option maxRecDepth 100000 in
theorem lk275_16 : xAt kT275 16 (.aload_n 0) 17 := ⟨1, rfl, Or.inr rfl, rfl⟩
set_option maxRecDepth 100000 in
theorem lk275_17 : xAt kT275 17 (.getfield 251) 20 := ⟨3, rfl, Or.inr rfl, rfl⟩
set_option maxRecDepth 100000 in
theorem lk275_20 : xAt kT275 20 (.iload_n 2) 21 := ⟨1, rfl, Or.inr rfl, rfl⟩
set_option maxRecDepth 100000 in
theorem lk275_21 : xAt kT275 21 (.iconst 0) 22 := ⟨1, rfl, Or.inr rfl, rfl⟩
set_option maxRecDepth 100000 in
theorem lk275_22 : xAt kT275 22 (.bastore) 23 := ⟨1, rfl, Or.inr rfl, rfl⟩
set_option maxRecDepth 100000 in
theorem lk275_23 : xAt kT275 23 (.iinc 2 1) 26 := ⟨3, rfl, Or.inr rfl, rfl⟩
set_option maxRecDepth 100000 in
theorem lk275_26 : xAt kT275 26 (.goto (-21)) 29 := ⟨3, rfl, Or.inr rfl, rfl⟩
set_option maxRecDepth 100000 in
theorem lk275_29 : xAt kT275 29 (.return_) 30 := ⟨1, rfl, Or.inr rfl, rfl⟩
