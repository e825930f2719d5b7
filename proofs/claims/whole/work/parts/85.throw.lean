/-! throws (words printed by wip/whole/gen_thr.py) -/
def zL0 : List Jvm.Cond := [.initialized "java/lang/Throwable", .superclass "java/lang/Throwable" "java/lang/Object", .instanceMethod ⟨"java/lang/Throwable", "fillInStackTrace", "()Ljava/lang/Throwable;"⟩, .instanceMethod ⟨"java/lang/Throwable", "fillInStackTrace", "(I)Ljava/lang/Throwable;"⟩, .codeSync ⟨"java/lang/Throwable", "fillInStackTrace", "()Ljava/lang/Throwable;"⟩ LibCode.Throwable.Fill.code 1 (some (.object "java/lang/Throwable")), .native ⟨"java/lang/Throwable", "fillInStackTrace", "(I)Ljava/lang/Throwable;"⟩, .instanceMethod ⟨"java/lang/Throwable", "<init>", "()V"⟩, .code ⟨"java/lang/Throwable", "<init>", "()V"⟩ LibCode.Throwable.Init0.code 1 none, .instanceMethod ⟨"java/lang/Object", "<init>", "()V"⟩, .code ⟨"java/lang/Object", "<init>", "()V"⟩ ⟨#[0xb1]⟩ 1 none, .methodLink "java/lang/Throwable" 1 ⟨"java/lang/Object", "<init>", "()V"⟩, .methodLink "java/lang/Throwable" 27 ⟨"java/lang/Throwable", "fillInStackTrace", "()Ljava/lang/Throwable;"⟩, .methodLink "java/lang/Throwable" 202 ⟨"java/lang/Throwable", "fillInStackTrace", "(I)Ljava/lang/Throwable;"⟩, .fieldLink "java/lang/Throwable" 7 "java/lang/Throwable" "cause" "Ljava/lang/Throwable;", .fieldLink "java/lang/Throwable" 17 "java/lang/Throwable" "stackTrace" "[Ljava/lang/StackTraceElement;", .fieldLink "java/lang/Throwable" 24 "java/lang/Throwable" "suppressedExceptions" "Ljava/util/List;", .fieldLink "java/lang/Throwable" 13 "java/lang/Throwable" "UNASSIGNED_STACK" "[Ljava/lang/StackTraceElement;", .fieldLink "java/lang/Throwable" 20 "java/lang/Throwable" "SUPPRESSED_SENTINEL" "Ljava/util/List;", .fieldLink "java/lang/Throwable" 198 "java/lang/Throwable" "backtrace" "Ljava/lang/Object;", .lays "java/lang/Throwable" "java/lang/Throwable" "cause" "Ljava/lang/Throwable;", .lays "java/lang/Throwable" "java/lang/Throwable" "stackTrace" "[Ljava/lang/StackTraceElement;", .lays "java/lang/Throwable" "java/lang/Throwable" "suppressedExceptions" "Ljava/util/List;", .lays "java/lang/Throwable" "java/lang/Throwable" "detailMessage" "Ljava/lang/String;", .lays "java/lang/Throwable" "java/lang/Throwable" "backtrace" "Ljava/lang/Object;", .lays "java/lang/IndexOutOfBoundsException" "java/lang/Throwable" "cause" "Ljava/lang/Throwable;", .lays "java/lang/IndexOutOfBoundsException" "java/lang/Throwable" "stackTrace" "[Ljava/lang/StackTraceElement;", .lays "java/lang/IndexOutOfBoundsException" "java/lang/Throwable" "suppressedExceptions" "Ljava/util/List;", .lays "java/lang/IndexOutOfBoundsException" "java/lang/Throwable" "detailMessage" "Ljava/lang/String;", .lays "java/lang/IndexOutOfBoundsException" "java/lang/Throwable" "backtrace" "Ljava/lang/Object;", .instanceMethod ⟨"java/lang/IndexOutOfBoundsException", "<init>", "()V"⟩, .code ⟨"java/lang/IndexOutOfBoundsException", "<init>", "()V"⟩ Bundle.five 1 none, .methodLink "java/lang/IndexOutOfBoundsException" 1 ⟨"java/lang/RuntimeException", "<init>", "()V"⟩, .instanceMethod ⟨"java/lang/RuntimeException", "<init>", "()V"⟩, .code ⟨"java/lang/RuntimeException", "<init>", "()V"⟩ Bundle.five 1 none, .methodLink "java/lang/RuntimeException" 1 ⟨"java/lang/Exception", "<init>", "()V"⟩, .instanceMethod ⟨"java/lang/Exception", "<init>", "()V"⟩, .code ⟨"java/lang/Exception", "<init>", "()V"⟩ Bundle.five 1 none, .methodLink "java/lang/Exception" 1 ⟨"java/lang/Throwable", "<init>", "()V"⟩, .methodLink "AgreedStore" 120 ⟨"java/lang/IndexOutOfBoundsException", "<init>", "()V"⟩, .instantiable "java/lang/IndexOutOfBoundsException" 6, .selects "java/lang/IndexOutOfBoundsException" ⟨"java/lang/Throwable", "fillInStackTrace", "(I)Ljava/lang/Throwable;"⟩ ⟨"java/lang/Throwable", "fillInStackTrace", "(I)Ljava/lang/Throwable;"⟩, .selects "java/lang/IndexOutOfBoundsException" ⟨"java/lang/Throwable", "fillInStackTrace", "()Ljava/lang/Throwable;"⟩ ⟨"java/lang/Throwable", "fillInStackTrace", "()Ljava/lang/Throwable;"⟩, .classLink "AgreedStore" 118 "java/lang/IndexOutOfBoundsException", .initialized "java/lang/IndexOutOfBoundsException"]
set_option maxRecDepth 100000 in
theorem zl0_t1 : ∀ w ∈ ([.initialized "java/lang/Throwable", .instanceMethod ⟨"java/lang/Object", "<init>", "()V"⟩, .code ⟨"java/lang/Object", "<init>", "()V"⟩ ⟨#[0xb1]⟩ 1 none, .initialized "java/lang/IndexOutOfBoundsException"] : List Jvm.Cond), w ∈ lw_tbl := fun w h => xin_t1 w (x_sub (big := tables_1_1) [18, 43, 44, 23] rfl w h)
set_option maxRecDepth 100000 in
theorem zl0_t5 : ∀ w ∈ ([.superclass "java/lang/Throwable" "java/lang/Object", .instanceMethod ⟨"java/lang/Throwable", "fillInStackTrace", "()Ljava/lang/Throwable;"⟩, .instanceMethod ⟨"java/lang/Throwable", "fillInStackTrace", "(I)Ljava/lang/Throwable;"⟩, .codeSync ⟨"java/lang/Throwable", "fillInStackTrace", "()Ljava/lang/Throwable;"⟩ LibCode.Throwable.Fill.code 1 (some (.object "java/lang/Throwable")), .native ⟨"java/lang/Throwable", "fillInStackTrace", "(I)Ljava/lang/Throwable;"⟩, .instanceMethod ⟨"java/lang/Throwable", "<init>", "()V"⟩, .code ⟨"java/lang/Throwable", "<init>", "()V"⟩ LibCode.Throwable.Init0.code 1 none, .methodLink "java/lang/Throwable" 1 ⟨"java/lang/Object", "<init>", "()V"⟩, .methodLink "java/lang/Throwable" 27 ⟨"java/lang/Throwable", "fillInStackTrace", "()Ljava/lang/Throwable;"⟩, .methodLink "java/lang/Throwable" 202 ⟨"java/lang/Throwable", "fillInStackTrace", "(I)Ljava/lang/Throwable;"⟩, .fieldLink "java/lang/Throwable" 13 "java/lang/Throwable" "UNASSIGNED_STACK" "[Ljava/lang/StackTraceElement;", .fieldLink "java/lang/Throwable" 20 "java/lang/Throwable" "SUPPRESSED_SENTINEL" "Ljava/util/List;", .fieldLink "java/lang/Throwable" 198 "java/lang/Throwable" "backtrace" "Ljava/lang/Object;", .lays "java/lang/Throwable" "java/lang/Throwable" "suppressedExceptions" "Ljava/util/List;", .lays "java/lang/Throwable" "java/lang/Throwable" "detailMessage" "Ljava/lang/String;", .lays "java/lang/Throwable" "java/lang/Throwable" "backtrace" "Ljava/lang/Object;", .lays "java/lang/IndexOutOfBoundsException" "java/lang/Throwable" "detailMessage" "Ljava/lang/String;", .lays "java/lang/IndexOutOfBoundsException" "java/lang/Throwable" "backtrace" "Ljava/lang/Object;"] : List Jvm.Cond), w ∈ lw_tbl := fun w h => xin_t5 w (x_sub (big := tables_1_5) [6, 15, 23, 20, 25, 7, 8, 9, 14, 21, 10, 12, 5, 0, 2, 4, 1, 3] rfl w h)
set_option maxRecDepth 100000 in
theorem zl0_t6 : ∀ w ∈ ([.fieldLink "java/lang/Throwable" 7 "java/lang/Throwable" "cause" "Ljava/lang/Throwable;", .fieldLink "java/lang/Throwable" 17 "java/lang/Throwable" "stackTrace" "[Ljava/lang/StackTraceElement;", .fieldLink "java/lang/Throwable" 24 "java/lang/Throwable" "suppressedExceptions" "Ljava/util/List;"] : List Jvm.Cond), w ∈ lw_tbl := fun w h => xin_t6 w (x_sub (big := tables_1_6) [18, 19, 20] rfl w h)
set_option maxRecDepth 100000 in
theorem zl0_t4 : ∀ w ∈ ([.lays "java/lang/Throwable" "java/lang/Throwable" "cause" "Ljava/lang/Throwable;", .lays "java/lang/Throwable" "java/lang/Throwable" "stackTrace" "[Ljava/lang/StackTraceElement;", .lays "java/lang/IndexOutOfBoundsException" "java/lang/Throwable" "cause" "Ljava/lang/Throwable;", .lays "java/lang/IndexOutOfBoundsException" "java/lang/Throwable" "stackTrace" "[Ljava/lang/StackTraceElement;", .lays "java/lang/IndexOutOfBoundsException" "java/lang/Throwable" "suppressedExceptions" "Ljava/util/List;", .instantiable "java/lang/IndexOutOfBoundsException" 6, .selects "java/lang/IndexOutOfBoundsException" ⟨"java/lang/Throwable", "fillInStackTrace", "(I)Ljava/lang/Throwable;"⟩ ⟨"java/lang/Throwable", "fillInStackTrace", "(I)Ljava/lang/Throwable;"⟩, .selects "java/lang/IndexOutOfBoundsException" ⟨"java/lang/Throwable", "fillInStackTrace", "()Ljava/lang/Throwable;"⟩ ⟨"java/lang/Throwable", "fillInStackTrace", "()Ljava/lang/Throwable;"⟩] : List Jvm.Cond), w ∈ lw_tbl := fun w h => xin_t4 w (x_sub (big := tables_1_4) [236, 238, 235, 237, 239, 225, 233, 234] rfl w h)
set_option maxRecDepth 100000 in
theorem zl0_t9 : ∀ w ∈ ([.instanceMethod ⟨"java/lang/IndexOutOfBoundsException", "<init>", "()V"⟩, .code ⟨"java/lang/IndexOutOfBoundsException", "<init>", "()V"⟩ Bundle.five 1 none, .methodLink "java/lang/IndexOutOfBoundsException" 1 ⟨"java/lang/RuntimeException", "<init>", "()V"⟩, .methodLink "AgreedStore" 120 ⟨"java/lang/IndexOutOfBoundsException", "<init>", "()V"⟩] : List Jvm.Cond), w ∈ lw_tbl := fun w h => xin_t9 w (x_sub (big := tables_1_9) [1, 2, 3, 0] rfl w h)
set_option maxRecDepth 100000 in
theorem zl0_t8 : ∀ w ∈ ([.instanceMethod ⟨"java/lang/RuntimeException", "<init>", "()V"⟩, .code ⟨"java/lang/RuntimeException", "<init>", "()V"⟩ Bundle.five 1 none, .methodLink "java/lang/RuntimeException" 1 ⟨"java/lang/Exception", "<init>", "()V"⟩, .instanceMethod ⟨"java/lang/Exception", "<init>", "()V"⟩, .code ⟨"java/lang/Exception", "<init>", "()V"⟩ Bundle.five 1 none, .methodLink "java/lang/Exception" 1 ⟨"java/lang/Throwable", "<init>", "()V"⟩, .classLink "AgreedStore" 118 "java/lang/IndexOutOfBoundsException"] : List Jvm.Cond), w ∈ lw_tbl := fun w h => xin_t8 w (x_sub (big := tables_1_8) [202, 203, 204, 205, 206, 207, 239] rfl w h)
set_option maxRecDepth 100000 in
theorem zl0 : ∀ w ∈ zL0, w ∈ lw_tbl := by
  intro w h
  simp only [zL0, List.mem_cons, List.not_mem_nil, or_false] at h
  rcases h with rfl | rfl | rfl | rfl | rfl | rfl | rfl | rfl | rfl | rfl | rfl | rfl | rfl | rfl | rfl | rfl | rfl | rfl | rfl | rfl | rfl | rfl | rfl | rfl | rfl | rfl | rfl | rfl | rfl | rfl | rfl | rfl | rfl | rfl | rfl | rfl | rfl | rfl | rfl | rfl | rfl | rfl | rfl | rfl
  · exact zl0_t1 _ (by simp)
  · exact zl0_t5 _ (by simp)
  · exact zl0_t5 _ (by simp)
  · exact zl0_t5 _ (by simp)
  · exact zl0_t5 _ (by simp)
  · exact zl0_t5 _ (by simp)
  · exact zl0_t5 _ (by simp)
  · exact zl0_t5 _ (by simp)
  · exact zl0_t1 _ (by simp)
  · exact zl0_t1 _ (by simp)
  · exact zl0_t5 _ (by simp)
  · exact zl0_t5 _ (by simp)
  · exact zl0_t5 _ (by simp)
  · exact zl0_t6 _ (by simp)
  · exact zl0_t6 _ (by simp)
  · exact zl0_t6 _ (by simp)
  · exact zl0_t5 _ (by simp)
  · exact zl0_t5 _ (by simp)
  · exact zl0_t5 _ (by simp)
  · exact zl0_t4 _ (by simp)
  · exact zl0_t4 _ (by simp)
  · exact zl0_t5 _ (by simp)
  · exact zl0_t5 _ (by simp)
  · exact zl0_t5 _ (by simp)
  · exact zl0_t4 _ (by simp)
  · exact zl0_t4 _ (by simp)
  · exact zl0_t4 _ (by simp)
  · exact zl0_t5 _ (by simp)
  · exact zl0_t5 _ (by simp)
  · exact zl0_t9 _ (by simp)
  · exact zl0_t9 _ (by simp)
  · exact zl0_t9 _ (by simp)
  · exact zl0_t8 _ (by simp)
  · exact zl0_t8 _ (by simp)
  · exact zl0_t8 _ (by simp)
  · exact zl0_t8 _ (by simp)
  · exact zl0_t8 _ (by simp)
  · exact zl0_t8 _ (by simp)
  · exact zl0_t9 _ (by simp)
  · exact zl0_t4 _ (by simp)
  · exact zl0_t4 _ (by simp)
  · exact zl0_t4 _ (by simp)
  · exact zl0_t8 _ (by simp)
  · exact zl0_t1 _ (by simp)
def zL1 : List Jvm.Cond := [.initialized "java/lang/Throwable", .superclass "java/lang/Throwable" "java/lang/Object", .instanceMethod ⟨"java/lang/Throwable", "fillInStackTrace", "()Ljava/lang/Throwable;"⟩, .instanceMethod ⟨"java/lang/Throwable", "fillInStackTrace", "(I)Ljava/lang/Throwable;"⟩, .codeSync ⟨"java/lang/Throwable", "fillInStackTrace", "()Ljava/lang/Throwable;"⟩ LibCode.Throwable.Fill.code 1 (some (.object "java/lang/Throwable")), .native ⟨"java/lang/Throwable", "fillInStackTrace", "(I)Ljava/lang/Throwable;"⟩, .instanceMethod ⟨"java/lang/Throwable", "<init>", "()V"⟩, .code ⟨"java/lang/Throwable", "<init>", "()V"⟩ LibCode.Throwable.Init0.code 1 none, .instanceMethod ⟨"java/lang/Object", "<init>", "()V"⟩, .code ⟨"java/lang/Object", "<init>", "()V"⟩ ⟨#[0xb1]⟩ 1 none, .methodLink "java/lang/Throwable" 1 ⟨"java/lang/Object", "<init>", "()V"⟩, .methodLink "java/lang/Throwable" 27 ⟨"java/lang/Throwable", "fillInStackTrace", "()Ljava/lang/Throwable;"⟩, .methodLink "java/lang/Throwable" 202 ⟨"java/lang/Throwable", "fillInStackTrace", "(I)Ljava/lang/Throwable;"⟩, .fieldLink "java/lang/Throwable" 7 "java/lang/Throwable" "cause" "Ljava/lang/Throwable;", .fieldLink "java/lang/Throwable" 17 "java/lang/Throwable" "stackTrace" "[Ljava/lang/StackTraceElement;", .fieldLink "java/lang/Throwable" 24 "java/lang/Throwable" "suppressedExceptions" "Ljava/util/List;", .fieldLink "java/lang/Throwable" 13 "java/lang/Throwable" "UNASSIGNED_STACK" "[Ljava/lang/StackTraceElement;", .fieldLink "java/lang/Throwable" 20 "java/lang/Throwable" "SUPPRESSED_SENTINEL" "Ljava/util/List;", .fieldLink "java/lang/Throwable" 198 "java/lang/Throwable" "backtrace" "Ljava/lang/Object;", .lays "java/lang/Throwable" "java/lang/Throwable" "cause" "Ljava/lang/Throwable;", .lays "java/lang/Throwable" "java/lang/Throwable" "stackTrace" "[Ljava/lang/StackTraceElement;", .lays "java/lang/Throwable" "java/lang/Throwable" "suppressedExceptions" "Ljava/util/List;", .lays "java/lang/Throwable" "java/lang/Throwable" "detailMessage" "Ljava/lang/String;", .lays "java/lang/Throwable" "java/lang/Throwable" "backtrace" "Ljava/lang/Object;", .lays "java/lang/IllegalArgumentException" "java/lang/Throwable" "cause" "Ljava/lang/Throwable;", .lays "java/lang/IllegalArgumentException" "java/lang/Throwable" "stackTrace" "[Ljava/lang/StackTraceElement;", .lays "java/lang/IllegalArgumentException" "java/lang/Throwable" "suppressedExceptions" "Ljava/util/List;", .lays "java/lang/IllegalArgumentException" "java/lang/Throwable" "detailMessage" "Ljava/lang/String;", .lays "java/lang/IllegalArgumentException" "java/lang/Throwable" "backtrace" "Ljava/lang/Object;", .instanceMethod ⟨"java/lang/IllegalArgumentException", "<init>", "()V"⟩, .code ⟨"java/lang/IllegalArgumentException", "<init>", "()V"⟩ Bundle.five 1 none, .methodLink "java/lang/IllegalArgumentException" 1 ⟨"java/lang/RuntimeException", "<init>", "()V"⟩, .instanceMethod ⟨"java/lang/RuntimeException", "<init>", "()V"⟩, .code ⟨"java/lang/RuntimeException", "<init>", "()V"⟩ Bundle.five 1 none, .methodLink "java/lang/RuntimeException" 1 ⟨"java/lang/Exception", "<init>", "()V"⟩, .instanceMethod ⟨"java/lang/Exception", "<init>", "()V"⟩, .code ⟨"java/lang/Exception", "<init>", "()V"⟩ Bundle.five 1 none, .methodLink "java/lang/Exception" 1 ⟨"java/lang/Throwable", "<init>", "()V"⟩, .methodLink "AgreedStore" 75 ⟨"java/lang/IllegalArgumentException", "<init>", "()V"⟩, .instantiable "java/lang/IllegalArgumentException" 6, .selects "java/lang/IllegalArgumentException" ⟨"java/lang/Throwable", "fillInStackTrace", "(I)Ljava/lang/Throwable;"⟩ ⟨"java/lang/Throwable", "fillInStackTrace", "(I)Ljava/lang/Throwable;"⟩, .selects "java/lang/IllegalArgumentException" ⟨"java/lang/Throwable", "fillInStackTrace", "()Ljava/lang/Throwable;"⟩ ⟨"java/lang/Throwable", "fillInStackTrace", "()Ljava/lang/Throwable;"⟩, .classLink "AgreedStore" 73 "java/lang/IllegalArgumentException", .initialized "java/lang/IllegalArgumentException"]
set_option maxRecDepth 100000 in
theorem zl1_t1 : ∀ w ∈ ([.initialized "java/lang/Throwable", .instanceMethod ⟨"java/lang/Object", "<init>", "()V"⟩, .code ⟨"java/lang/Object", "<init>", "()V"⟩ ⟨#[0xb1]⟩ 1 none, .initialized "java/lang/IllegalArgumentException"] : List Jvm.Cond), w ∈ lw_tbl := fun w h => xin_t1 w (x_sub (big := tables_1_1) [18, 43, 44, 22] rfl w h)
set_option maxRecDepth 100000 in
theorem zl1_t5 : ∀ w ∈ ([.superclass "java/lang/Throwable" "java/lang/Object", .instanceMethod ⟨"java/lang/Throwable", "fillInStackTrace", "()Ljava/lang/Throwable;"⟩, .instanceMethod ⟨"java/lang/Throwable", "fillInStackTrace", "(I)Ljava/lang/Throwable;"⟩, .codeSync ⟨"java/lang/Throwable", "fillInStackTrace", "()Ljava/lang/Throwable;"⟩ LibCode.Throwable.Fill.code 1 (some (.object "java/lang/Throwable")), .native ⟨"java/lang/Throwable", "fillInStackTrace", "(I)Ljava/lang/Throwable;"⟩, .instanceMethod ⟨"java/lang/Throwable", "<init>", "()V"⟩, .code ⟨"java/lang/Throwable", "<init>", "()V"⟩ LibCode.Throwable.Init0.code 1 none, .methodLink "java/lang/Throwable" 1 ⟨"java/lang/Object", "<init>", "()V"⟩, .methodLink "java/lang/Throwable" 27 ⟨"java/lang/Throwable", "fillInStackTrace", "()Ljava/lang/Throwable;"⟩, .methodLink "java/lang/Throwable" 202 ⟨"java/lang/Throwable", "fillInStackTrace", "(I)Ljava/lang/Throwable;"⟩, .fieldLink "java/lang/Throwable" 13 "java/lang/Throwable" "UNASSIGNED_STACK" "[Ljava/lang/StackTraceElement;", .fieldLink "java/lang/Throwable" 20 "java/lang/Throwable" "SUPPRESSED_SENTINEL" "Ljava/util/List;", .fieldLink "java/lang/Throwable" 198 "java/lang/Throwable" "backtrace" "Ljava/lang/Object;", .lays "java/lang/Throwable" "java/lang/Throwable" "suppressedExceptions" "Ljava/util/List;", .lays "java/lang/Throwable" "java/lang/Throwable" "detailMessage" "Ljava/lang/String;", .lays "java/lang/Throwable" "java/lang/Throwable" "backtrace" "Ljava/lang/Object;", .lays "java/lang/IllegalArgumentException" "java/lang/Throwable" "cause" "Ljava/lang/Throwable;", .lays "java/lang/IllegalArgumentException" "java/lang/Throwable" "stackTrace" "[Ljava/lang/StackTraceElement;", .lays "java/lang/IllegalArgumentException" "java/lang/Throwable" "suppressedExceptions" "Ljava/util/List;", .lays "java/lang/IllegalArgumentException" "java/lang/Throwable" "detailMessage" "Ljava/lang/String;", .lays "java/lang/IllegalArgumentException" "java/lang/Throwable" "backtrace" "Ljava/lang/Object;", .instantiable "java/lang/IllegalArgumentException" 6, .selects "java/lang/IllegalArgumentException" ⟨"java/lang/Throwable", "fillInStackTrace", "(I)Ljava/lang/Throwable;"⟩ ⟨"java/lang/Throwable", "fillInStackTrace", "(I)Ljava/lang/Throwable;"⟩, .selects "java/lang/IllegalArgumentException" ⟨"java/lang/Throwable", "fillInStackTrace", "()Ljava/lang/Throwable;"⟩ ⟨"java/lang/Throwable", "fillInStackTrace", "()Ljava/lang/Throwable;"⟩] : List Jvm.Cond), w ∈ lw_tbl := fun w h => xin_t5 w (x_sub (big := tables_1_5) [6, 15, 23, 20, 25, 7, 8, 9, 14, 21, 10, 12, 5, 0, 2, 4, 233, 234, 235, 236, 237, 230, 232, 18] rfl w h)
set_option maxRecDepth 100000 in
theorem zl1_t6 : ∀ w ∈ ([.fieldLink "java/lang/Throwable" 7 "java/lang/Throwable" "cause" "Ljava/lang/Throwable;", .fieldLink "java/lang/Throwable" 17 "java/lang/Throwable" "stackTrace" "[Ljava/lang/StackTraceElement;", .fieldLink "java/lang/Throwable" 24 "java/lang/Throwable" "suppressedExceptions" "Ljava/util/List;"] : List Jvm.Cond), w ∈ lw_tbl := fun w h => xin_t6 w (x_sub (big := tables_1_6) [18, 19, 20] rfl w h)
set_option maxRecDepth 100000 in
theorem zl1_t4 : ∀ w ∈ ([.lays "java/lang/Throwable" "java/lang/Throwable" "cause" "Ljava/lang/Throwable;", .lays "java/lang/Throwable" "java/lang/Throwable" "stackTrace" "[Ljava/lang/StackTraceElement;"] : List Jvm.Cond), w ∈ lw_tbl := fun w h => xin_t4 w (x_sub (big := tables_1_4) [236, 238] rfl w h)
set_option maxRecDepth 100000 in
theorem zl1_t8 : ∀ w ∈ ([.instanceMethod ⟨"java/lang/IllegalArgumentException", "<init>", "()V"⟩, .code ⟨"java/lang/IllegalArgumentException", "<init>", "()V"⟩ Bundle.five 1 none, .methodLink "java/lang/IllegalArgumentException" 1 ⟨"java/lang/RuntimeException", "<init>", "()V"⟩, .instanceMethod ⟨"java/lang/RuntimeException", "<init>", "()V"⟩, .code ⟨"java/lang/RuntimeException", "<init>", "()V"⟩ Bundle.five 1 none, .methodLink "java/lang/RuntimeException" 1 ⟨"java/lang/Exception", "<init>", "()V"⟩, .instanceMethod ⟨"java/lang/Exception", "<init>", "()V"⟩, .code ⟨"java/lang/Exception", "<init>", "()V"⟩ Bundle.five 1 none, .methodLink "java/lang/Exception" 1 ⟨"java/lang/Throwable", "<init>", "()V"⟩, .methodLink "AgreedStore" 75 ⟨"java/lang/IllegalArgumentException", "<init>", "()V"⟩, .classLink "AgreedStore" 73 "java/lang/IllegalArgumentException"] : List Jvm.Cond), w ∈ lw_tbl := fun w h => xin_t8 w (x_sub (big := tables_1_8) [224, 225, 226, 202, 203, 204, 205, 206, 207, 223, 222] rfl w h)
set_option maxRecDepth 100000 in
theorem zl1 : ∀ w ∈ zL1, w ∈ lw_tbl := by
  intro w h
  simp only [zL1, List.mem_cons, List.not_mem_nil, or_false] at h
  rcases h with rfl | rfl | rfl | rfl | rfl | rfl | rfl | rfl | rfl | rfl | rfl | rfl | rfl | rfl | rfl | rfl | rfl | rfl | rfl | rfl | rfl | rfl | rfl | rfl | rfl | rfl | rfl | rfl | rfl | rfl | rfl | rfl | rfl | rfl | rfl | rfl | rfl | rfl | rfl | rfl | rfl | rfl | rfl | rfl
  · exact zl1_t1 _ (by simp)
  · exact zl1_t5 _ (by simp)
  · exact zl1_t5 _ (by simp)
  · exact zl1_t5 _ (by simp)
  · exact zl1_t5 _ (by simp)
  · exact zl1_t5 _ (by simp)
  · exact zl1_t5 _ (by simp)
  · exact zl1_t5 _ (by simp)
  · exact zl1_t1 _ (by simp)
  · exact zl1_t1 _ (by simp)
  · exact zl1_t5 _ (by simp)
  · exact zl1_t5 _ (by simp)
  · exact zl1_t5 _ (by simp)
  · exact zl1_t6 _ (by simp)
  · exact zl1_t6 _ (by simp)
  · exact zl1_t6 _ (by simp)
  · exact zl1_t5 _ (by simp)
  · exact zl1_t5 _ (by simp)
  · exact zl1_t5 _ (by simp)
  · exact zl1_t4 _ (by simp)
  · exact zl1_t4 _ (by simp)
  · exact zl1_t5 _ (by simp)
  · exact zl1_t5 _ (by simp)
  · exact zl1_t5 _ (by simp)
  · exact zl1_t5 _ (by simp)
  · exact zl1_t5 _ (by simp)
  · exact zl1_t5 _ (by simp)
  · exact zl1_t5 _ (by simp)
  · exact zl1_t5 _ (by simp)
  · exact zl1_t8 _ (by simp)
  · exact zl1_t8 _ (by simp)
  · exact zl1_t8 _ (by simp)
  · exact zl1_t8 _ (by simp)
  · exact zl1_t8 _ (by simp)
  · exact zl1_t8 _ (by simp)
  · exact zl1_t8 _ (by simp)
  · exact zl1_t8 _ (by simp)
  · exact zl1_t8 _ (by simp)
  · exact zl1_t8 _ (by simp)
  · exact zl1_t5 _ (by simp)
  · exact zl1_t5 _ (by simp)
  · exact zl1_t5 _ (by simp)
  · exact zl1_t8 _ (by simp)
  · exact zl1_t1 _ (by simp)
def zL2 : List Jvm.Cond := [.initialized "java/lang/Throwable", .superclass "java/lang/Throwable" "java/lang/Object", .instanceMethod ⟨"java/lang/Throwable", "fillInStackTrace", "()Ljava/lang/Throwable;"⟩, .instanceMethod ⟨"java/lang/Throwable", "fillInStackTrace", "(I)Ljava/lang/Throwable;"⟩, .codeSync ⟨"java/lang/Throwable", "fillInStackTrace", "()Ljava/lang/Throwable;"⟩ LibCode.Throwable.Fill.code 1 (some (.object "java/lang/Throwable")), .native ⟨"java/lang/Throwable", "fillInStackTrace", "(I)Ljava/lang/Throwable;"⟩, .instanceMethod ⟨"java/lang/Throwable", "<init>", "()V"⟩, .code ⟨"java/lang/Throwable", "<init>", "()V"⟩ LibCode.Throwable.Init0.code 1 none, .instanceMethod ⟨"java/lang/Object", "<init>", "()V"⟩, .code ⟨"java/lang/Object", "<init>", "()V"⟩ ⟨#[0xb1]⟩ 1 none, .methodLink "java/lang/Throwable" 1 ⟨"java/lang/Object", "<init>", "()V"⟩, .methodLink "java/lang/Throwable" 27 ⟨"java/lang/Throwable", "fillInStackTrace", "()Ljava/lang/Throwable;"⟩, .methodLink "java/lang/Throwable" 202 ⟨"java/lang/Throwable", "fillInStackTrace", "(I)Ljava/lang/Throwable;"⟩, .fieldLink "java/lang/Throwable" 7 "java/lang/Throwable" "cause" "Ljava/lang/Throwable;", .fieldLink "java/lang/Throwable" 17 "java/lang/Throwable" "stackTrace" "[Ljava/lang/StackTraceElement;", .fieldLink "java/lang/Throwable" 24 "java/lang/Throwable" "suppressedExceptions" "Ljava/util/List;", .fieldLink "java/lang/Throwable" 13 "java/lang/Throwable" "UNASSIGNED_STACK" "[Ljava/lang/StackTraceElement;", .fieldLink "java/lang/Throwable" 20 "java/lang/Throwable" "SUPPRESSED_SENTINEL" "Ljava/util/List;", .fieldLink "java/lang/Throwable" 198 "java/lang/Throwable" "backtrace" "Ljava/lang/Object;", .lays "java/lang/Throwable" "java/lang/Throwable" "cause" "Ljava/lang/Throwable;", .lays "java/lang/Throwable" "java/lang/Throwable" "stackTrace" "[Ljava/lang/StackTraceElement;", .lays "java/lang/Throwable" "java/lang/Throwable" "suppressedExceptions" "Ljava/util/List;", .lays "java/lang/Throwable" "java/lang/Throwable" "detailMessage" "Ljava/lang/String;", .lays "java/lang/Throwable" "java/lang/Throwable" "backtrace" "Ljava/lang/Object;", .lays "java/lang/IllegalStateException" "java/lang/Throwable" "cause" "Ljava/lang/Throwable;", .lays "java/lang/IllegalStateException" "java/lang/Throwable" "stackTrace" "[Ljava/lang/StackTraceElement;", .lays "java/lang/IllegalStateException" "java/lang/Throwable" "suppressedExceptions" "Ljava/util/List;", .lays "java/lang/IllegalStateException" "java/lang/Throwable" "detailMessage" "Ljava/lang/String;", .lays "java/lang/IllegalStateException" "java/lang/Throwable" "backtrace" "Ljava/lang/Object;", .instanceMethod ⟨"java/lang/IllegalStateException", "<init>", "()V"⟩, .code ⟨"java/lang/IllegalStateException", "<init>", "()V"⟩ Bundle.five 1 none, .methodLink "java/lang/IllegalStateException" 1 ⟨"java/lang/RuntimeException", "<init>", "()V"⟩, .instanceMethod ⟨"java/lang/RuntimeException", "<init>", "()V"⟩, .code ⟨"java/lang/RuntimeException", "<init>", "()V"⟩ Bundle.five 1 none, .methodLink "java/lang/RuntimeException" 1 ⟨"java/lang/Exception", "<init>", "()V"⟩, .instanceMethod ⟨"java/lang/Exception", "<init>", "()V"⟩, .code ⟨"java/lang/Exception", "<init>", "()V"⟩ Bundle.five 1 none, .methodLink "java/lang/Exception" 1 ⟨"java/lang/Throwable", "<init>", "()V"⟩, .methodLink "AgreedStore" 69 ⟨"java/lang/IllegalStateException", "<init>", "()V"⟩, .instantiable "java/lang/IllegalStateException" 6, .selects "java/lang/IllegalStateException" ⟨"java/lang/Throwable", "fillInStackTrace", "(I)Ljava/lang/Throwable;"⟩ ⟨"java/lang/Throwable", "fillInStackTrace", "(I)Ljava/lang/Throwable;"⟩, .selects "java/lang/IllegalStateException" ⟨"java/lang/Throwable", "fillInStackTrace", "()Ljava/lang/Throwable;"⟩ ⟨"java/lang/Throwable", "fillInStackTrace", "()Ljava/lang/Throwable;"⟩, .classLink "AgreedStore" 67 "java/lang/IllegalStateException", .initialized "java/lang/IllegalStateException"]
set_option maxRecDepth 100000 in
theorem zl2_t1 : ∀ w ∈ ([.initialized "java/lang/Throwable", .instanceMethod ⟨"java/lang/Object", "<init>", "()V"⟩, .code ⟨"java/lang/Object", "<init>", "()V"⟩ ⟨#[0xb1]⟩ 1 none, .initialized "java/lang/IllegalStateException"] : List Jvm.Cond), w ∈ lw_tbl := fun w h => xin_t1 w (x_sub (big := tables_1_1) [18, 43, 44, 21] rfl w h)
set_option maxRecDepth 100000 in
theorem zl2_t5 : ∀ w ∈ ([.superclass "java/lang/Throwable" "java/lang/Object", .instanceMethod ⟨"java/lang/Throwable", "fillInStackTrace", "()Ljava/lang/Throwable;"⟩, .instanceMethod ⟨"java/lang/Throwable", "fillInStackTrace", "(I)Ljava/lang/Throwable;"⟩, .codeSync ⟨"java/lang/Throwable", "fillInStackTrace", "()Ljava/lang/Throwable;"⟩ LibCode.Throwable.Fill.code 1 (some (.object "java/lang/Throwable")), .native ⟨"java/lang/Throwable", "fillInStackTrace", "(I)Ljava/lang/Throwable;"⟩, .instanceMethod ⟨"java/lang/Throwable", "<init>", "()V"⟩, .code ⟨"java/lang/Throwable", "<init>", "()V"⟩ LibCode.Throwable.Init0.code 1 none, .methodLink "java/lang/Throwable" 1 ⟨"java/lang/Object", "<init>", "()V"⟩, .methodLink "java/lang/Throwable" 27 ⟨"java/lang/Throwable", "fillInStackTrace", "()Ljava/lang/Throwable;"⟩, .methodLink "java/lang/Throwable" 202 ⟨"java/lang/Throwable", "fillInStackTrace", "(I)Ljava/lang/Throwable;"⟩, .fieldLink "java/lang/Throwable" 13 "java/lang/Throwable" "UNASSIGNED_STACK" "[Ljava/lang/StackTraceElement;", .fieldLink "java/lang/Throwable" 20 "java/lang/Throwable" "SUPPRESSED_SENTINEL" "Ljava/util/List;", .fieldLink "java/lang/Throwable" 198 "java/lang/Throwable" "backtrace" "Ljava/lang/Object;", .lays "java/lang/Throwable" "java/lang/Throwable" "suppressedExceptions" "Ljava/util/List;", .lays "java/lang/Throwable" "java/lang/Throwable" "detailMessage" "Ljava/lang/String;", .lays "java/lang/Throwable" "java/lang/Throwable" "backtrace" "Ljava/lang/Object;", .selects "java/lang/IllegalStateException" ⟨"java/lang/Throwable", "fillInStackTrace", "()Ljava/lang/Throwable;"⟩ ⟨"java/lang/Throwable", "fillInStackTrace", "()Ljava/lang/Throwable;"⟩] : List Jvm.Cond), w ∈ lw_tbl := fun w h => xin_t5 w (x_sub (big := tables_1_5) [6, 15, 23, 20, 25, 7, 8, 9, 14, 21, 10, 12, 5, 0, 2, 4, 19] rfl w h)
set_option maxRecDepth 100000 in
theorem zl2_t6 : ∀ w ∈ ([.fieldLink "java/lang/Throwable" 7 "java/lang/Throwable" "cause" "Ljava/lang/Throwable;", .fieldLink "java/lang/Throwable" 17 "java/lang/Throwable" "stackTrace" "[Ljava/lang/StackTraceElement;", .fieldLink "java/lang/Throwable" 24 "java/lang/Throwable" "suppressedExceptions" "Ljava/util/List;"] : List Jvm.Cond), w ∈ lw_tbl := fun w h => xin_t6 w (x_sub (big := tables_1_6) [18, 19, 20] rfl w h)
set_option maxRecDepth 100000 in
theorem zl2_t4 : ∀ w ∈ ([.lays "java/lang/Throwable" "java/lang/Throwable" "cause" "Ljava/lang/Throwable;", .lays "java/lang/Throwable" "java/lang/Throwable" "stackTrace" "[Ljava/lang/StackTraceElement;"] : List Jvm.Cond), w ∈ lw_tbl := fun w h => xin_t4 w (x_sub (big := tables_1_4) [236, 238] rfl w h)
set_option maxRecDepth 100000 in
theorem zl2_t8 : ∀ w ∈ ([.lays "java/lang/IllegalStateException" "java/lang/Throwable" "cause" "Ljava/lang/Throwable;", .lays "java/lang/IllegalStateException" "java/lang/Throwable" "stackTrace" "[Ljava/lang/StackTraceElement;", .lays "java/lang/IllegalStateException" "java/lang/Throwable" "suppressedExceptions" "Ljava/util/List;", .lays "java/lang/IllegalStateException" "java/lang/Throwable" "detailMessage" "Ljava/lang/String;", .lays "java/lang/IllegalStateException" "java/lang/Throwable" "backtrace" "Ljava/lang/Object;", .instanceMethod ⟨"java/lang/IllegalStateException", "<init>", "()V"⟩, .code ⟨"java/lang/IllegalStateException", "<init>", "()V"⟩ Bundle.five 1 none, .methodLink "java/lang/IllegalStateException" 1 ⟨"java/lang/RuntimeException", "<init>", "()V"⟩, .instanceMethod ⟨"java/lang/RuntimeException", "<init>", "()V"⟩, .code ⟨"java/lang/RuntimeException", "<init>", "()V"⟩ Bundle.five 1 none, .methodLink "java/lang/RuntimeException" 1 ⟨"java/lang/Exception", "<init>", "()V"⟩, .instanceMethod ⟨"java/lang/Exception", "<init>", "()V"⟩, .code ⟨"java/lang/Exception", "<init>", "()V"⟩ Bundle.five 1 none, .methodLink "java/lang/Exception" 1 ⟨"java/lang/Throwable", "<init>", "()V"⟩, .methodLink "AgreedStore" 69 ⟨"java/lang/IllegalStateException", "<init>", "()V"⟩, .instantiable "java/lang/IllegalStateException" 6, .selects "java/lang/IllegalStateException" ⟨"java/lang/Throwable", "fillInStackTrace", "(I)Ljava/lang/Throwable;"⟩ ⟨"java/lang/Throwable", "fillInStackTrace", "(I)Ljava/lang/Throwable;"⟩, .classLink "AgreedStore" 67 "java/lang/IllegalStateException"] : List Jvm.Cond), w ∈ lw_tbl := fun w h => xin_t8 w (x_sub (big := tables_1_8) [193, 194, 195, 196, 197, 199, 200, 201, 202, 203, 204, 205, 206, 207, 198, 190, 192, 189] rfl w h)
set_option maxRecDepth 100000 in
theorem zl2 : ∀ w ∈ zL2, w ∈ lw_tbl := by
  intro w h
  simp only [zL2, List.mem_cons, List.not_mem_nil, or_false] at h
  rcases h with rfl | rfl | rfl | rfl | rfl | rfl | rfl | rfl | rfl | rfl | rfl | rfl | rfl | rfl | rfl | rfl | rfl | rfl | rfl | rfl | rfl | rfl | rfl | rfl | rfl | rfl | rfl | rfl | rfl | rfl | rfl | rfl | rfl | rfl | rfl | rfl | rfl | rfl | rfl | rfl | rfl | rfl | rfl | rfl
  · exact zl2_t1 _ (by simp)
  · exact zl2_t5 _ (by simp)
  · exact zl2_t5 _ (by simp)
  · exact zl2_t5 _ (by simp)
  · exact zl2_t5 _ (by simp)
  · exact zl2_t5 _ (by simp)
  · exact zl2_t5 _ (by simp)
  · exact zl2_t5 _ (by simp)
  · exact zl2_t1 _ (by simp)
  · exact zl2_t1 _ (by simp)
  · exact zl2_t5 _ (by simp)
  · exact zl2_t5 _ (by simp)
  · exact zl2_t5 _ (by simp)
  · exact zl2_t6 _ (by simp)
  · exact zl2_t6 _ (by simp)
  · exact zl2_t6 _ (by simp)
  · exact zl2_t5 _ (by simp)
  · exact zl2_t5 _ (by simp)
  · exact zl2_t5 _ (by simp)
  · exact zl2_t4 _ (by simp)
  · exact zl2_t4 _ (by simp)
  · exact zl2_t5 _ (by simp)
  · exact zl2_t5 _ (by simp)
  · exact zl2_t5 _ (by simp)
  · exact zl2_t8 _ (by simp)
  · exact zl2_t8 _ (by simp)
  · exact zl2_t8 _ (by simp)
  · exact zl2_t8 _ (by simp)
  · exact zl2_t8 _ (by simp)
  · exact zl2_t8 _ (by simp)
  · exact zl2_t8 _ (by simp)
  · exact zl2_t8 _ (by simp)
  · exact zl2_t8 _ (by simp)
  · exact zl2_t8 _ (by simp)
  · exact zl2_t8 _ (by simp)
  · exact zl2_t8 _ (by simp)
  · exact zl2_t8 _ (by simp)
  · exact zl2_t8 _ (by simp)
  · exact zl2_t8 _ (by simp)
  · exact zl2_t8 _ (by simp)
  · exact zl2_t8 _ (by simp)
  · exact zl2_t5 _ (by simp)
  · exact zl2_t8 _ (by simp)
  · exact zl2_t1 _ (by simp)
/-- the three exceptions -/
def zX : Nat → String
  | 0 => "java/lang/IndexOutOfBoundsException"
  | 1 => "java/lang/IllegalArgumentException"
  | _ => "java/lang/IllegalStateException"
def zR : List String := ["java/lang/RuntimeException", "java/lang/Exception"]
def zIK : Nat → Nat × Nat
  | 0 => (118, 120)
  | 1 => (73, 75)
  | _ => (67, 69)
def zL : Nat → List Jvm.Cond
  | 0 => zL0
  | 1 => zL1
  | _ => zL2
theorem zL_in (E : Nat) : ∀ w ∈ zL E, w ∈ lw_tbl := match E with
  | 0 => zl0
  | 1 => zl1
  | _ + 2 => zl2
/-- words that are no good words, but the tables' -/
def zB : List Jvm.Cond := [.declares ⟨"java/lang/RuntimeException", "<init>", "()V"⟩, .declares ⟨"java/lang/Exception", "<init>", "()V"⟩, .declares ⟨"java/lang/Throwable", "<init>", "()V"⟩,
  .castable "java/lang/IndexOutOfBoundsException" "java/lang/IndexOutOfBoundsException", .castable "java/lang/IllegalArgumentException" "java/lang/IllegalArgumentException", .castable "java/lang/IllegalStateException" "java/lang/IllegalStateException"]
theorem zB_ot : ∀ w ∈ zB, w.onTables = true := by decide +kernel
theorem zg (E : Nat) : ∀ w ∈ (vx_at0 "AgreedStore" (zIK E).2 (zX E) zR).filter goodWord, w ∈ zL E := match E with
  | 0 => by decide +kernel
  | 1 => by decide +kernel
  | _ + 2 => by show ∀ w ∈ (vx_at0 "AgreedStore" 69 "java/lang/IllegalStateException" zR).filter goodWord, w ∈ zL2; decide +kernel
theorem zb (E : Nat) : ∀ w ∈ (vx_at0 "AgreedStore" (zIK E).2 (zX E) zR).filter (fun w => !goodWord w), w ∈ zB := match E with
  | 0 => by decide +kernel
  | 1 => by decide +kernel
  | _ + 2 => by show ∀ w ∈ (vx_at0 "AgreedStore" 69 "java/lang/IllegalStateException" zR).filter (fun w => !goodWord w), w ∈ zB; decide +kernel
theorem zot (E : Nat) : ∀ w ∈ Jvm.Cond.classLink "AgreedStore" (zIK E).1 (zX E) :: Jvm.Cond.initialized (zX E) :: vx_at0 "AgreedStore" (zIK E).2 (zX E) zR, vx_ot w = true := match E with
  | 0 => by decide +kernel
  | 1 => by decide +kernel
  | _ + 2 => by show ∀ w ∈ Jvm.Cond.classLink "AgreedStore" 67 "java/lang/IllegalStateException" :: Jvm.Cond.initialized "java/lang/IllegalStateException" :: vx_at0 "AgreedStore" 69 "java/lang/IllegalStateException" zR, vx_ot w = true; decide +kernel
theorem zlk (E : Nat) : Jvm.Cond.classLink "AgreedStore" (zIK E).1 (zX E) ∈ zL E ∧ Jvm.Cond.initialized (zX E) ∈ zL E := match E with
  | 0 => by decide +kernel
  | 1 => by decide +kernel
  | _ + 2 => by show Jvm.Cond.classLink "AgreedStore" 67 "java/lang/IllegalStateException" ∈ zL2 ∧ Jvm.Cond.initialized "java/lang/IllegalStateException" ∈ zL2; decide +kernel
theorem zfit (E : Nat) : Bundle.fit (zX E) = true ∧ ∀ n ∈ zR, Bundle.fit n = true := match E with
  | 0 => by decide +kernel
  | 1 => by decide +kernel
  | _ + 2 => by show Bundle.fit "java/lang/IllegalStateException" = true ∧ ∀ n ∈ zR, Bundle.fit n = true; decide +kernel
/-- what is known for throws -/
def zY (G0 : Heap) (base : Nat) (U : State) : Prop := vx_Zq Bundle.tN "UNASSIGNED_STACK" Bundle.steD (fun q => base ≤ q) U G0 ∧ vx_Zq Bundle.tN "SUPPRESSED_SENTINEL" Bundle.listD (fun q => base ≤ q) U G0 ∧ (∀ w ∈ zB, va_Nw w U) ∧ ∀ i j, i < 3 → j < 3 → i ≠ j → va_Nc (zX i) (zX j) U
/-- a call that throws -/
def xMetX (l : Launch) (G0 : Heap) (Y : State → Prop) (D : va_G) (dA : Nat → ClassId) (base d y : Nat) (as : List Value) (h : xH) (E : Nat) (h' : xH) : Prop :=
  ∃ (bytes : ByteArray) (ml : Nat) (ret : Option FieldType) (n : Nat), xM y = some (bytes, ml, ret, n) ∧ h.2.1 ≤ h'.2.1 ∧ h.2.2 ≤ h'.2.2 ∧
    vx_Met l (xMn y) (Jvm.Cond.code (xMn y) bytes ml ret :: xALL) ({ frames := d, cells := h'.2.1 - h.2.1, slots := h'.2.2 - h.2.2, locals := 60 * d })
      (fun a U => a = as.toArray ∧ base ≤ h.2.1 ∧ xRp G0 D dA base h U.heap ∧ xKn Y D dA U) (fun _ _ _ _ => False) (fun E' _ t => E' = zX E ∧ xRp G0 D dA base h' t.heap) (h'.2.1 - h.2.1) (h'.2.2 - h.2.2) (fun q => base ≤ q)
/-- the heap behind a throw -/
def xth (h : xH) : xH := (h.1, h.2.1 + 1, h.2.2 + 6)
section ZT
variable {p : Program} {l : Launch} {e : Env} {R : Room} {s : State} {m : MethodId} {args : Array Value} {below : List Frame} {meth : Method} {c : Code} {Q : State → Prop}
variable {cc : ByteArray} {nL : Nat} {G0 : Heap} {Y : State → Prop} {D : va_G} {dA : Nat → ClassId} {base d t0 u0 : Nat} {cF : Nat → List Value → xH → Option (Option Value × xH)}
/-- x_run, of a table whose ends are not the bytes' -/
theorem x_runE (hx : p.tables.exec = Jvm.exec) (hb : c.code = cc) (hml : c.maxLocals = nL) {o : Nat} (hown : s.vm.findClass (xOwn o) = some m.cls) (hts : ∀ w ∈ xALL, w.before args s = true) (hK : xKn Y D dA s) {ini : Bool} (hini : ini = true → meth.name = "<init>")
    (hF1 : d + 1 ≤ R.frames) (hF2 : 60 * (d + 1) ≤ R.locals) (hcF : ∀ y as h r h', cF y as h = some (r, h') → xMet l G0 Y D dA base d y as h r h') {k : xK} (hk : ∀ q ∈ k, xend q.2.1 = false → decode cc q.1 = .ok q.2) (g : xF) (hc1 : g.2.2.2.2.1 - t0 ≤ R.cells) (hc2 : g.2.2.2.2.2 - u0 ≤ R.slots)
    (kk : ∀ (ls : Array Slot) (H : Heap) (locs : List Loc), lv_has ls nL g.2.1 → xRp G0 D dA base g.2.2.2 H → (∀ q ∈ locs, base ≤ q.base) → W p l e R s m args below meth c H locs (g.2.2.2.2.1 - t0) (g.2.2.2.2.2 - u0) Q (F0 m g.1 ls g.2.2.1)) :
    ∀ (n : Nat) (f : xF), xrun cF k o nL ini n f = some g → base ≤ f.2.2.2.2.1 → t0 ≤ f.2.2.2.2.1 → u0 ≤ f.2.2.2.2.2 → ∀ (ls : Array Slot) (H : Heap) (locs : List Loc), lv_has ls nL f.2.1 → xRp G0 D dA base f.2.2.2 H → (∀ q ∈ locs, base ≤ q.base) → W p l e R s m args below meth c H locs (f.2.2.2.2.1 - t0) (f.2.2.2.2.2 - u0) Q (F0 m f.1 ls f.2.2.1)
  | 0, f, h => by simp [xrun] at h
  | n + 1, (pc, lv, st, h), he => by
    intro hbase ht hu ls H locs hl hR hL
    have hmo : ∀ y as h r h', cF y as h = some (r, h') → xMono h h' := fun y as h r h' hq => by
      obtain ⟨_, _, _, _, _, h1, h2, _⟩ := hcF y as h r h' hq
      exact ⟨h1, h2⟩
    simp only [xrun] at he
    split at he
    next i len hlk =>
      have hmem : (pc, (i, len)) ∈ k := x_look hlk
      split at he
      next hend =>
        cases he
        exact kk ls H locs hl hR hL
      next hend =>
        have hd : decode cc pc = .ok (i, len) := hk (pc, (i, len)) hmem (by simpa using hend)
        split at he
        next f hf =>
          obtain ⟨pc', lv', st', h'⟩ := f
          have hm1 := xop_mono hmo hf
          have hm2 := xrun_mono hmo n _ _ he
          dsimp only at hm1 hm2 hbase ht hu
          have ih := x_runE hx hb hml hown hts hK hini hF1 hF2 hcF hk g hc1 hc2 kk n _ he (by show base ≤ h'.2.1; omega) (by show t0 ≤ h'.2.1; omega) (by show u0 ≤ h'.2.2; omega)
          dsimp only at ih
          unfold xop at hf
          split at hf
          next hlen =>
            split at hf
            next pc2 lv2 st2 hp =>
              cases hf
              exact x_pure hx hb hown hts hK hR hd hlen hl hp (fun ls' hl' => ih ls' H locs hl' hR hL)
            next hp =>
              obtain ⟨-, e1⟩ := xmem_mono hmo hf
              subst e1
              exact x_mem hx hb hml hown hts hK hR hbase hini hF1 hF2 hcF ht hu hL hd hlen hl hf (by omega) (by omega) (fun H' locs' hR' hL' => ih ls H' locs' hl hR' hL')
          next => cases hf
        next => cases he
    next => cases he
/-- 'throw new X()' at pc, nothing on the stack -/
theorem z_thr (hx : p.tables.exec = Jvm.exec) (hb : c.code = cc) (hl : l.stackTraces = false) (hml : c.maxLocals = nL) (hown : s.vm.findClass "AgreedStore" = some m.cls) (hts : ∀ w ∈ xALL, w.before args s = true) (hY : zY G0 base s) {h0 h : xH} {H : Heap} {locs : List Loc} (hR0 : xRp G0 D dA base h0 s.heap) (hb0 : base ≤ h0.2.1) (hR : xRp G0 D dA base h H) (hle : h0.2.1 ≤ h.2.1) (hL : ∀ q ∈ locs, base ≤ q.base)
    {E pc : Nat} {ls : Array Slot} {lv : xL} (hl2 : lv_has ls nL lv) (htab : ∀ x ∈ c.exceptionTable.toList, False) (hlocks : meth.locks = false)
    (d0 : decode cc pc = .ok (.new (zIK E).1, 3)) (d3 : decode cc (pc + 3) = .ok (.dup, 1)) (d4 : decode cc (pc + 4) = .ok (.invokespecial (zIK E).2, 3)) (d7 : decode cc (pc + 7) = .ok (.athrow, 1))
    (hF1 : 6 ≤ R.frames) (hF2 : 100 ≤ R.locals) {cells slots mc ms : Nat} (hc : cells + 1 = mc) (hs : slots + 6 = ms) (hRc : mc ≤ R.cells) (hRs : ms ≤ R.slots) :
    W p l e R s m args below meth c H locs cells slots (vx_MQ below (fun _ _ _ _ => False) (fun E' _ t => E' = zX E ∧ xRp G0 D dA base (xth h) t.heap) args s mc ms (fun q => base ≤ q)) (F0 m pc ls []) := by
  have hbase : ∀ q : Nat, q < G0.size → ¬ base ≤ q → s.heap[q]? = G0[q]? := fun q _ h => hR0.2.2 q (by omega)
  have hU := hY.1.kept (H1 := s.heap) hbase
  have hN := hY.2.1.kept (H1 := s.heap) hbase
  have hS : va_S (fun q => base ≤ q) s.heap H locs := ⟨by rw [hR0.1, hR.1]; exact hle, fun q hq hn => by rw [hR.2.2 q (by omega), hR0.2.2 q (by omega)], hL⟩
  have hat : ∀ w ∈ vx_at0 "AgreedStore" (zIK E).2 (zX E) zR, w.before args s = true := vx_hat (B := zB) (fun w hw => hts w (xALL_g (zL_in E w (zg E w hw)) (List.mem_filter.mp hw).2)) (zb E) (fun w hw => va_Nw.use (zB_ot w hw) (hY.2.2.1 w hw))
  have hk : ∀ w ∈ zL E, goodWord w = true → w.before args s = true := fun w hw g => hts w (xALL_g (zL_in E w hw) g)
  refine vx_throw0 (own := "AgreedStore") (cls := zX E) (names := zR) (ik := (zIK E).1) (ic := (zIK E).2) (A := fun q => base ≤ q) hx hb hl hown (zfit E).1 (zfit E).2 (hk _ (zlk E).1 rfl) (hk _ (zlk E).2 rfl) hat (zot E) hU hN hS (hl2.1.trans hml.symm) d0 d3 d4 d7
    (fun x hx => (htab x hx).elim) (by show 2 + 3 < R.frames; omega) (by show 0 + (13 * (2 + 1) + 42) ≤ R.locals; omega) (by omega) (by omega) hlocks ?_ hL (by omega) (by omega)
  intro t _ hsz hq
  refine ⟨rfl, ?_, fun a ha => ?_, fun a ha => ?_⟩
  · show t.heap.size = h.2.1 + 1
    rw [hsz, hR.1]
  · have hc1 := hR.2.1 a ha
    have hlt : a < H.size := by
      rcases hc1 with ⟨-, -, -, _, o1, -⟩ | ⟨-, -, -, o1, -⟩ | ⟨-, scr, o1, -⟩
      · exact (Array.getElem?_eq_some_iff.mp o1).1
      · exact (Array.getElem?_eq_some_iff.mp o1).1
      · exact (Array.getElem?_eq_some_iff.mp o1).1
    have he : t.heap[a]? = H[a]? := hq a hlt
    exact hc1.kept he
  · by_cases hlt : a < H.size
    · rw [hq a hlt]; exact hR.2.2 a ha
    · have := hR0.1; have := hR.1; omega
end ZT
theorem zcast (E : Nat) (h : E < 3) : Jvm.Cond.castable (zX E) (zX E) ∈ zB := by
  match E, h with
  | 0, _ | 1, _ | 2, _ => decide +kernel
