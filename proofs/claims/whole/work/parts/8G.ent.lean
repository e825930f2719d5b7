/-! the law: what is known at its entry (printed by wip/whole/gen_ent.py) -/
theorem zly_0 : ∀ w ∈ u_ws RJ0 TJ0 4, w ∈ lw_tbl := by
  intro w h
  obtain ⟨k, hk, rfl⟩ := List.mem_map.mp h
  have hk := List.mem_range.mp hk
  match k, hk with
  | 0, _ => exact xin_t6 _ (x_sub (big := tables_1_6) (ws := [.laysFinal "java/lang/String" "java/lang/String" "value" "[B"]) [44] rfl _ (List.mem_singleton.mpr rfl))
  | 1, _ => exact xin_t6 _ (x_sub (big := tables_1_6) (ws := [.laysFinal "java/lang/String" "java/lang/String" "coder" "B"]) [46] rfl _ (List.mem_singleton.mpr rfl))
  | 2, _ => exact xin_t6 _ (x_sub (big := tables_1_6) (ws := [.lays "java/lang/String" "java/lang/String" "hash" "I"]) [48] rfl _ (List.mem_singleton.mpr rfl))
  | 3, _ => exact xin_t6 _ (x_sub (big := tables_1_6) (ws := [.lays "java/lang/String" "java/lang/String" "hashIsZero" "Z"]) [50] rfl _ (List.mem_singleton.mpr rfl))
  | q + 4, h => exact absurd h (by omega)
theorem zly_1 : ∀ w ∈ u_ws RJ4 TJ4 4, w ∈ lw_tbl := by
  intro w h
  obtain ⟨k, hk, rfl⟩ := List.mem_map.mp h
  have hk := List.mem_range.mp hk
  match k, hk with
  | 0, _ => exact xin_t5 _ (x_sub (big := tables_1_5) (ws := [.lays "java/lang/StringBuilder" "java/lang/AbstractStringBuilder" "value" "[B"]) [52] rfl _ (List.mem_singleton.mpr rfl))
  | 1, _ => exact xin_t5 _ (x_sub (big := tables_1_5) (ws := [.lays "java/lang/StringBuilder" "java/lang/AbstractStringBuilder" "coder" "B"]) [54] rfl _ (List.mem_singleton.mpr rfl))
  | 2, _ => exact xin_t5 _ (x_sub (big := tables_1_5) (ws := [.lays "java/lang/StringBuilder" "java/lang/AbstractStringBuilder" "maybeLatin1" "Z"]) [56] rfl _ (List.mem_singleton.mpr rfl))
  | 3, _ => exact xin_t5 _ (x_sub (big := tables_1_5) (ws := [.lays "java/lang/StringBuilder" "java/lang/AbstractStringBuilder" "count" "I"]) [58] rfl _ (List.mem_singleton.mpr rfl))
  | q + 4, h => exact absurd h (by omega)
theorem zly_2 : ∀ w ∈ u_ws RJx00060 TJx00060 6, w ∈ lw_tbl := by
  intro w h
  obtain ⟨k, hk, rfl⟩ := List.mem_map.mp h
  have hk := List.mem_range.mp hk
  match k, hk with
  | 0, _ => exact xin_t7 _ (x_sub (big := tables_1_7) (ws := [.lays "java/lang/ArrayIndexOutOfBoundsException" "java/lang/Throwable" "cause" "Ljava/lang/Throwable;"]) [237] rfl _ (List.mem_singleton.mpr rfl))
  | 1, _ => exact xin_t7 _ (x_sub (big := tables_1_7) (ws := [.lays "java/lang/ArrayIndexOutOfBoundsException" "java/lang/Throwable" "stackTrace" "[Ljava/lang/StackTraceElement;"]) [238] rfl _ (List.mem_singleton.mpr rfl))
  | 2, _ => exact xin_t7 _ (x_sub (big := tables_1_7) (ws := [.lays "java/lang/ArrayIndexOutOfBoundsException" "java/lang/Throwable" "suppressedExceptions" "Ljava/util/List;"]) [239] rfl _ (List.mem_singleton.mpr rfl))
  | 3, _ => exact xin_t8 _ (x_sub (big := tables_1_8) (ws := [.lays "java/lang/ArrayIndexOutOfBoundsException" "java/lang/Throwable" "detailMessage" "Ljava/lang/String;"]) [0] rfl _ (List.mem_singleton.mpr rfl))
  | 4, _ => exact xin_t8 _ (x_sub (big := tables_1_8) (ws := [.lays "java/lang/ArrayIndexOutOfBoundsException" "java/lang/Throwable" "backtrace" "Ljava/lang/Object;"]) [1] rfl _ (List.mem_singleton.mpr rfl))
  | 5, _ => exact xin_t8 _ (x_sub (big := tables_1_8) (ws := [.lays "java/lang/ArrayIndexOutOfBoundsException" "java/lang/Throwable" "depth" "I"]) [12] rfl _ (List.mem_singleton.mpr rfl))
  | q + 6, h => exact absurd h (by omega)
section ZE
variable {s : State} {args : Array Value}
theorem z_cls (hts : ∀ w ∈ lw_tbl, w.before args s = true) : ∀ k : Nat, ∃ p : ClassId × (Nat → Nat), ∀ q, vwCl[k]? = some q → u_Kn s q.1 q.2.1 q.2.2 p.1 p.2 := by
  intro k
  match k with
  | 0 =>
    obtain ⟨cC, iS, h⟩ := u_known (C := RJ0) (T := TJ0) (N := 4) (n := 4) hts zly_0 (hts (.instantiable "java/lang/String" 4) (xin_t5 _ (x_sub (big := tables_1_5) (ws := [.instantiable "java/lang/String" 4]) [198] rfl _ (List.mem_singleton.mpr rfl))))
    exact ⟨(cC, iS), fun q hq => by cases hq; exact h⟩
  | 1 =>
    obtain ⟨cC, iS, h⟩ := u_known (C := RJ4) (T := TJ4) (N := 4) (n := 4) hts zly_1 (hts (.instantiable "java/lang/StringBuilder" 4) (xin_t5 _ (x_sub (big := tables_1_5) (ws := [.instantiable "java/lang/StringBuilder" 4]) [31] rfl _ (List.mem_singleton.mpr rfl))))
    exact ⟨(cC, iS), fun q hq => by cases hq; exact h⟩
  | 2 =>
    obtain ⟨cC, iS, h⟩ := u_known (C := RJx00060) (T := TJx00060) (N := 6) (n := 6) hts zly_2 (hts (.instantiable "java/lang/ArrayIndexOutOfBoundsException" 6) (xin_t7 _ (x_sub (big := tables_1_7) (ws := [.instantiable "java/lang/ArrayIndexOutOfBoundsException" 6]) [232] rfl _ (List.mem_singleton.mpr rfl))))
    exact ⟨(cC, iS), fun q hq => by cases hq; exact h⟩
  | 3 =>
    obtain ⟨cC, iS, h⟩ := u_known (C := RJx4a65c) (T := TJx4a65c) (N := 3) (n := 3) hts xly_Jx4a65c (hts (.instantiable "java/util/ArrayList" 3) (xin_t1 _ (x_sub (big := tables_1_1) (ws := [.instantiable "java/util/ArrayList" 3]) [62] rfl _ (List.mem_singleton.mpr rfl))))
    exact ⟨(cC, iS), fun q hq => by cases hq; exact h⟩
  | 4 =>
    obtain ⟨cC, iS, h⟩ := u_known (C := RX0) (T := TX0) (N := 5) (n := 5) hts xly_X0 (hts (.instantiable "AgreedStore$Askings" 5) (xin_t1 _ (x_sub (big := tables_1_1) (ws := [.instantiable "AgreedStore$Askings" 5]) [164] rfl _ (List.mem_singleton.mpr rfl))))
    exact ⟨(cC, iS), fun q hq => by cases hq; exact h⟩
  | 5 =>
    obtain ⟨cC, iS, h⟩ := u_known (C := RX1) (T := TX1) (N := 14) (n := 14) hts xly_X1 (hts (.instantiable "AgreedStore$Client" 14) (xin_t3 _ (x_sub (big := tables_1_3) (ws := [.instantiable "AgreedStore$Client" 14]) [101] rfl _ (List.mem_singleton.mpr rfl))))
    exact ⟨(cC, iS), fun q hq => by cases hq; exact h⟩
  | 6 =>
    obtain ⟨cC, iS, h⟩ := u_known (C := RX2) (T := TX2) (N := 10) (n := 10) hts xly_X2 (hts (.instantiable "AgreedStore$Disk" 10) (xin_t1 _ (x_sub (big := tables_1_1) (ws := [.instantiable "AgreedStore$Disk" 10]) [194] rfl _ (List.mem_singleton.mpr rfl))))
    exact ⟨(cC, iS), fun q hq => by cases hq; exact h⟩
  | 7 =>
    obtain ⟨cC, iS, h⟩ := u_known (C := RX3) (T := TX3) (N := 12) (n := 12) hts xly_X3 (hts (.instantiable "AgreedStore$Lead" 12) (xin_t2 _ (x_sub (big := tables_1_2) (ws := [.instantiable "AgreedStore$Lead" 12]) [49] rfl _ (List.mem_singleton.mpr rfl))))
    exact ⟨(cC, iS), fun q hq => by cases hq; exact h⟩
  | 8 =>
    obtain ⟨cC, iS, h⟩ := u_known (C := RX4) (T := TX4) (N := 20) (n := 20) hts xly_X4 (hts (.instantiable "AgreedStore$Letter" 20) (xin_t4 _ (x_sub (big := tables_1_4) (ws := [.instantiable "AgreedStore$Letter" 20]) [21] rfl _ (List.mem_singleton.mpr rfl))))
    exact ⟨(cC, iS), fun q hq => by cases hq; exact h⟩
  | 9 =>
    obtain ⟨cC, iS, h⟩ := u_known (C := RX5) (T := TX5) (N := 12) (n := 12) hts xly_X5 (hts (.instantiable "AgreedStore$Log" 12) (xin_t2 _ (x_sub (big := tables_1_2) (ws := [.instantiable "AgreedStore$Log" 12]) [149] rfl _ (List.mem_singleton.mpr rfl))))
    exact ⟨(cC, iS), fun q hq => by cases hq; exact h⟩
  | 10 =>
    obtain ⟨cC, iS, h⟩ := u_known (C := RX6) (T := TX6) (N := 15) (n := 15) hts xly_X6 (hts (.instantiable "AgreedStore$Machine" 15) (xin_t2 _ (x_sub (big := tables_1_2) (ws := [.instantiable "AgreedStore$Machine" 15]) [204] rfl _ (List.mem_singleton.mpr rfl))))
    exact ⟨(cC, iS), fun q hq => by cases hq; exact h⟩
  | 11 =>
    obtain ⟨cC, iS, h⟩ := u_known (C := RX7) (T := TX7) (N := 10) (n := 10) hts xly_X7 (hts (.instantiable "AgreedStore$Page" 10) (xin_t1 _ (x_sub (big := tables_1_1) (ws := [.instantiable "AgreedStore$Page" 10]) [201] rfl _ (List.mem_singleton.mpr rfl))))
    exact ⟨(cC, iS), fun q hq => by cases hq; exact h⟩
  | 12 =>
    obtain ⟨cC, iS, h⟩ := u_known (C := RX8) (T := TX8) (N := 9) (n := 9) hts xly_X8 (hts (.instantiable "AgreedStore$Requests" 9) (xin_t2 _ (x_sub (big := tables_1_2) (ws := [.instantiable "AgreedStore$Requests" 9]) [104] rfl _ (List.mem_singleton.mpr rfl))))
    exact ⟨(cC, iS), fun q hq => by cases hq; exact h⟩
  | 13 =>
    obtain ⟨cC, iS, h⟩ := u_known (C := RX9) (T := TX9) (N := 20) (n := 20) hts xly_X9 (hts (.instantiable "AgreedStore$Server" 20) (xin_t1 _ (x_sub (big := tables_1_1) (ws := [.instantiable "AgreedStore$Server" 20]) [188] rfl _ (List.mem_singleton.mpr rfl))))
    exact ⟨(cC, iS), fun q hq => by cases hq; exact h⟩
  | 14 =>
    obtain ⟨cC, iS, h⟩ := u_known (C := RX10) (T := TX10) (N := 17) (n := 17) hts xly_X10 (hts (.instantiable "AgreedStore$World" 17) (xin_t1 _ (x_sub (big := tables_1_1) (ws := [.instantiable "AgreedStore$World" 17]) [56] rfl _ (List.mem_singleton.mpr rfl))))
    exact ⟨(cC, iS), fun q hq => by cases hq; exact h⟩
  | 15 =>
    obtain ⟨cC, iS, h⟩ := u_known (C := RX11) (T := TX11) (N := 8) (n := 8) hts xly_X11 (hts (.instantiable "AgreedStore" 8) (xin_t1 _ (x_sub (big := tables_1_1) (ws := [.instantiable "AgreedStore" 8]) [38] rfl _ (List.mem_singleton.mpr rfl))))
    exact ⟨(cC, iS), fun q hq => by cases hq; exact h⟩
  | 16 =>
    obtain ⟨cC, iS, h⟩ := u_known (C := RX12) (T := TX12) (N := 147) (n := 147) hts xly_X12 (hts (.instantiable "AgreedStoreModel" 147) (xin_t10 _ (x_sub (big := tables_1_10) (ws := [.instantiable "AgreedStoreModel" 147]) [93] rfl _ (List.mem_singleton.mpr rfl))))
    exact ⟨(cC, iS), fun q hq => by cases hq; exact h⟩
  | n + 17 => exact ⟨(0, fun _ => 0), fun q hq => by
      rw [List.getElem?_eq_none (show vwCl.length ≤ n + 17 from Nat.le_add_left 17 n)] at hq
      cases hq⟩
theorem z_prim {ty : FieldType} (h : (Jvm.Cond.arrayClass ty).before args s = true) (hp : ∀ c, s.vm.findClass ("[" ++ ty.toString) = some c → va_RA s c ty) : ∃ c, ArrOfT s c ty ∧ va_RA s c ty := by
  obtain ⟨c, k, comp, h1, h2, h3⟩ := Cond.arrayClass_spec h
  exact ⟨c, fun n z => ⟨(fun k h => by cases h), k, h2, comp, h3⟩, hp c h1⟩
theorem z_obj {C : String} (h : (Jvm.Cond.arrayOver (.object C)).before args s = true) : ∃ c, ArrOfT s c (.object C) ∧ va_RA s c (.object C) := by
  obtain ⟨comp, c, k, h1, h2, h3, h4, h5⟩ := Cond.arrayOver_spec h
  exact ⟨c, fun n z => ⟨(fun k h => by cases h), k, h3, comp, h4⟩, k, comp, h3, h4, h1, h5⟩
theorem z_len {t : Term} {v : Value} (h : (Term.length t).eval args s none [] s = some v) : ∃ a cell, t.eval args s none [] s = some (.ref a) ∧ s.arrayAt? a = some cell ∧ v = .int cell.slots.size.toInt32 ∧ cell.slots.size < 2147483648 := by
  simp only [Term.eval, Option.bind_eq_bind] at h
  cases ht : t.eval args s none [] s with
  | none => simp [ht] at h
  | some x =>
    cases x <;> simp [ht] at h
    case ref a =>
      obtain ⟨cell, hcell, h⟩ := Option.bind_eq_some_iff.mp h
      by_cases hn : cell.slots.size < 2147483648
      · rw [if_pos hn] at h; cases h; exact ⟨a, cell, rfl, hcell, rfl, hn⟩
      · rw [if_neg hn] at h; cases h
theorem z_zero {n : Nat} (h : n.toInt32 = 0) (hn : n < 2147483648) : n = 0 := by
  have h1 : (Int32.ofNat n).toInt = n := by
    rw [Int32.toInt_ofNat']
    have : ((n : Int)).bmod (2 ^ 32) = n := by
      rw [Int.bmod_def]
      omega
    exact this
  have h2 : (Int32.ofNat n).toInt = 0 := by
    rw [show Int32.ofNat n = 0 from h]
    rfl
  omega
/-- all that is known -/
def zAll (G0 : Heap) (base eD mi : Nat) (U : State) : Prop := yY G0 base eD mi U ∧ zY G0 base U
theorem zAll_moved {G0 : Heap} {base eD mi : Nat} {u U : State} (hvm : u.vm.Alike U.vm) (h : zAll G0 base eD mi u) : zAll G0 base eD mi U := by
  obtain ⟨⟨h1, h2, h3⟩, h4, h5, h6, h7⟩ := h
  refine ⟨⟨h1.moved hvm, h2.moved hvm, h3.moved hvm⟩, h4.moved hvm, h5.moved hvm, fun w hw => ?_, fun i j hi hj hne => (h7 i j hi hj hne).moved hvm⟩
  have hz := h6 w hw
  simp only [zB, List.mem_cons, List.not_mem_nil, or_false] at hw
  rcases hw with rfl | rfl | rfl | rfl | rfl | rfl
  · exact va_tabs rfl (rfl : (u.setVm U.vm).vm = U.vm) (by rw [Cond.declares_setVm hvm]; exact hz)
  · exact va_tabs rfl (rfl : (u.setVm U.vm).vm = U.vm) (by rw [Cond.declares_setVm hvm]; exact hz)
  · exact va_tabs rfl (rfl : (u.setVm U.vm).vm = U.vm) (by rw [Cond.declares_setVm hvm]; exact hz)
  · exact va_tabs rfl (rfl : (u.setVm U.vm).vm = U.vm) (by rw [Cond.castable_setVm hvm]; exact hz)
  · exact va_tabs rfl (rfl : (u.setVm U.vm).vm = U.vm) (by rw [Cond.castable_setVm hvm]; exact hz)
  · exact va_tabs rfl (rfl : (u.setVm U.vm).vm = U.vm) (by rw [Cond.castable_setVm hvm]; exact hz)
/-- the law's entry -/
theorem z_start {b L : Nat} {xs : Nat → Int32} (hts : ∀ w ∈ lw_tbl, w.before args s = true) (hX : va_X b L xs s s.heap) (hbl : b < s.heap.size) (hgv : (Jvm.Cond.and given_1 narrow_1).before args s = true) :
    ∃ (D : va_G) (dA : Nat → ClassId) (eD mi : Nat), xKn (zAll s.heap s.heap.size eD mi) D dA s ∧ eD < s.heap.size ∧ b ≠ eD ∧ xRp s.heap D dA s.heap.size (fun a => if a = b then (99, L, fun j => .int (xs j)) else if a = eD then (24, 0, fun _ => .null) else (0, 0, fun _ => .null), s.heap.size, 0) s.heap := by
  obtain ⟨f, hf⟩ := Classical.axiomOfChoice (z_cls hts)
  obtain ⟨scr, x1, x2, x3, x4, x5⟩ := hX
  obtain ⟨a0, b0, c0⟩ := z_prim (s := s) (args := args) (ty := .int) (hts _ (xin_t1 _ (x_sub (big := tables_1_1) (ws := [.arrayClass .int]) [88] rfl _ (List.mem_singleton.mpr rfl)))) (fun c h => h)
  obtain ⟨a1, b1, c1⟩ := z_prim (s := s) (args := args) (ty := .long) (hts _ (xin_t1 _ (x_sub (big := tables_1_1) (ws := [.arrayClass .long]) [89] rfl _ (List.mem_singleton.mpr rfl)))) (fun c h => h)
  obtain ⟨a2, b2, c2⟩ := z_prim (s := s) (args := args) (ty := .byte) (hts _ (xin_t1 _ (x_sub (big := tables_1_1) (ws := [.arrayClass .byte]) [87] rfl _ (List.mem_singleton.mpr rfl)))) (fun c h => h)
  obtain ⟨a3, b3, c3⟩ := z_prim (s := s) (args := args) (ty := .boolean) (hts _ (xin_t2 _ (x_sub (big := tables_1_2) (ws := [.arrayClass .boolean]) [102] rfl _ (List.mem_singleton.mpr rfl)))) (fun c h => h)
  have o4 := hts _ (xin_t4 _ (x_sub (big := tables_1_4) (ws := [.arrayOver (.object "java/lang/Object")]) [206] rfl _ (List.mem_singleton.mpr rfl)))
  obtain ⟨a4, b4, c4⟩ := z_obj o4
  have o5 := hts _ (xin_t1 _ (x_sub (big := tables_1_1) (ws := [.arrayOver (.object "AgreedStore$Server")]) [46] rfl _ (List.mem_singleton.mpr rfl)))
  obtain ⟨a5, b5, c5⟩ := z_obj o5
  have o6 := hts _ (xin_t1 _ (x_sub (big := tables_1_1) (ws := [.arrayOver (.object "AgreedStore$Client")]) [48] rfl _ (List.mem_singleton.mpr rfl)))
  obtain ⟨a6, b6, c6⟩ := z_obj o6
  have o7 := hts _ (xin_t1 _ (x_sub (big := tables_1_1) (ws := [.arrayOver (.object "AgreedStore$Page")]) [200] rfl _ (List.mem_singleton.mpr rfl)))
  obtain ⟨a7, b7, c7⟩ := z_obj o7
  have hs := flat_of_before _ hgv
  have e1 : (Jvm.Cond.exactly (.static "java/util/ArrayList" "DEFAULTCAPACITY_EMPTY_ELEMENTDATA" "[Ljava/lang/Object;") "[Ljava/lang/Object;").before args s = true := hs _ (by decide +kernel)
  have e2 : (Jvm.Cond.arrayOf (.static "java/util/ArrayList" "DEFAULTCAPACITY_EMPTY_ELEMENTDATA" "[Ljava/lang/Object;") (.object "java/lang/Object")).before args s = true := hs _ (by decide +kernel)
  have e3 : (Jvm.Cond.eq (.length (.static "java/util/ArrayList" "DEFAULTCAPACITY_EMPTY_ELEMENTDATA" "[Ljava/lang/Object;")) (.int 0)).before args s = true := hs _ (by decide +kernel)
  have e4 : (Jvm.Cond.isRef (.mirror "[Ljava/lang/Object;")).before args s = true := hs _ (by decide +kernel)
  have e5 : (Jvm.Cond.isRef (.static Bundle.tN "UNASSIGNED_STACK" Bundle.steD)).before args s = true := hs _ (by decide +kernel)
  have e6 : (Jvm.Cond.isRef (.static Bundle.tN "SUPPRESSED_SENTINEL" Bundle.listD)).before args s = true := hs _ (by decide +kernel)
  have e7 : ∀ i j, i < 3 → j < 3 → i ≠ j → (Jvm.Cond.not (.castable (zX i) (zX j))).before args s = true := by
    intro i j hi hj hne
    match i, j, hi, hj, hne with
    | 0, 0, _, _, h | 1, 1, _, _, h | 2, 2, _, _, h => exact absurd rfl h
    | 0, 1, _, _, _ | 0, 2, _, _, _ | 1, 0, _, _, _ | 1, 2, _, _, _ | 2, 0, _, _, _ | 2, 1, _, _, _ => exact hs _ (by decide +kernel)
  obtain ⟨eD, cO, cell, kO, g1, g2, g3, g4, g5, g6, -⟩ := Cond.exactly_spec e1
  obtain ⟨g7, g8⟩ := Cond.arrayOf_spec e2 g1 g3
  obtain ⟨w, l1, l2⟩ := Cond.eq_one e3
  obtain ⟨a9, cell9, m1, m2, m3, m4⟩ := z_len l1
  have hcell : cell9 = cell ∧ a9 = eD := by
    have h1 : some (Value.ref a9) = some (Value.ref eD) := m1.symm.trans g1
    have h2 : a9 = eD := by cases h1; rfl
    subst h2
    have h3 := (State.arrayAt?_spec m2).1
    exact ⟨Option.some.inj (h3.symm.trans g3), rfl⟩
  obtain ⟨rfl, rfl⟩ := hcell
  have hw0 : w = .int 0 := by
    have : some (Value.int 0) = some w := l2
    exact (Option.some.inj this).symm
  have hz : cell9.slots.size = 0 := by
    rw [hw0] at m3
    exact z_zero (Value.int.inj m3).symm m4
  obtain ⟨mi, hmi⟩ := va_Mi.of e4
  have hlt : a9 < s.heap.size := (Array.getElem?_eq_some_iff.mp g3).1
  have hbase : ∀ a : Nat, a < s.heap.size → ¬ (fun q => s.heap.size ≤ q) a := fun a h => Nat.not_le.mpr h
  have hall : zAll s.heap s.heap.size a9 mi s := by
    refine ⟨⟨va_Zof (hts _ (xin_t1 _ (x_sub (big := tables_1_1) (ws := [.laysStatic "java/util/ArrayList" "DEFAULTCAPACITY_EMPTY_ELEMENTDATA" "[Ljava/lang/Object;"]) [74] rfl _ (List.mem_singleton.mpr rfl)))) (hts _ (xin_t1 _ (x_sub (big := tables_1_1) (ws := [.initialized "java/util/ArrayList"]) [6] rfl _ (List.mem_singleton.mpr rfl)))) g1 hbase, hmi, va_Dc.of (hts _ (xin_t14 _ (x_sub (big := tables_1_14) (ws := [.declares ⟨"java/lang/Object", "getClass", "()Ljava/lang/Class;"⟩]) [213] rfl _ (List.mem_singleton.mpr rfl))))⟩,
      vx_Zqof (hts _ (xin_t5 _ (x_sub (big := tables_1_5) (ws := [.laysStatic "java/lang/Throwable" "UNASSIGNED_STACK" "[Ljava/lang/StackTraceElement;"]) [11] rfl _ (List.mem_singleton.mpr rfl)))) (hts _ (xin_t1 _ (x_sub (big := tables_1_1) (ws := [.initialized "java/lang/Throwable"]) [18] rfl _ (List.mem_singleton.mpr rfl)))) e5 hbase,
      vx_Zqof (hts _ (xin_t5 _ (x_sub (big := tables_1_5) (ws := [.laysStatic "java/lang/Throwable" "SUPPRESSED_SENTINEL" "Ljava/util/List;"]) [13] rfl _ (List.mem_singleton.mpr rfl)))) (hts _ (xin_t1 _ (x_sub (big := tables_1_1) (ws := [.initialized "java/lang/Throwable"]) [18] rfl _ (List.mem_singleton.mpr rfl)))) e6 hbase, fun w hw => ?_, fun i j hi hj hne => va_Nc.of (e7 i j hi hj hne)⟩
    have hz : ∀ w ∈ zB, w ∈ lw_tbl := by
      intro w hw
      simp only [zB, List.mem_cons, List.not_mem_nil, or_false] at hw
      rcases hw with rfl | rfl | rfl | rfl | rfl | rfl
      · exact xin_t4 _ (x_sub (big := tables_1_4) (ws := [.declares ⟨"java/lang/RuntimeException", "<init>", "()V"⟩]) [227] rfl _ (List.mem_singleton.mpr rfl))
      · exact xin_t4 _ (x_sub (big := tables_1_4) (ws := [.declares ⟨"java/lang/Exception", "<init>", "()V"⟩]) [229] rfl _ (List.mem_singleton.mpr rfl))
      · exact xin_t4 _ (x_sub (big := tables_1_4) (ws := [.declares ⟨"java/lang/Throwable", "<init>", "()V"⟩]) [231] rfl _ (List.mem_singleton.mpr rfl))
      · exact xin_t4 _ (x_sub (big := tables_1_4) (ws := [.castable "java/lang/IndexOutOfBoundsException" "java/lang/IndexOutOfBoundsException"]) [226] rfl _ (List.mem_singleton.mpr rfl))
      · exact xin_t5 _ (x_sub (big := tables_1_5) (ws := [.castable "java/lang/IllegalArgumentException" "java/lang/IllegalArgumentException"]) [231] rfl _ (List.mem_singleton.mpr rfl))
      · exact xin_t8 _ (x_sub (big := tables_1_8) (ws := [.castable "java/lang/IllegalStateException" "java/lang/IllegalStateException"]) [191] rfl _ (List.mem_singleton.mpr rfl))
    exact va_Nw.of (zB_ot w hw) (hts w (hz w hw))
  have hne : b ≠ a9 := by
    intro e
    subst e
    cases Option.some.inj (x1.symm.trans g3)
    obtain ⟨-, k1, hk1, c1, hk2⟩ := x2
    obtain ⟨-, k2, hk3, c2, hk4⟩ := g7
    cases Option.some.inj (hk1.symm.trans hk3)
    rw [hk2] at hk4
    cases hk4
  refine ⟨(fun k => (f k).1, fun k => (f k).2), fun j => match j with
    | 0 => a0
    | 1 => a1
    | 2 => a2
    | 3 => a3
    | 4 => a4
    | 5 => a5
    | 6 => a6
    | 7 => a7
    | _ => scr.cls, a9, mi, ⟨⟨fun k q hq => hf k q hq, fun k q hq => ?_⟩, ?_, fun q hq => ?_, fun U' hU' => zAll_moved hU' hall, ?_⟩, hlt, hne, rfl, fun a ha => ?_, fun a _ => rfl⟩
  · match k, hq with
    | 0, hq => cases hq; exact ⟨b0, c0⟩
    | 1, hq => cases hq; exact ⟨b1, c1⟩
    | 2, hq => cases hq; exact ⟨b2, c2⟩
    | 3, hq => cases hq; exact ⟨b3, c3⟩
    | 4, hq => cases hq; exact ⟨b4, c4⟩
    | 5, hq => cases hq; exact ⟨b5, c5⟩
    | 6, hq => cases hq; exact ⟨b6, c6⟩
    | 7, hq => cases hq; exact ⟨b7, c7⟩
    | n + 8, hq => simp [xtys] at hq
  · obtain ⟨-, k, hk, comp, hkk⟩ := x2
    exact ⟨k, comp, hk, hkk⟩
  · exact va_Nw.of rfl (hts _ (xnT_in _ (List.mem_map.mpr ⟨q, hq, rfl⟩)))
  · exact ⟨va_Nw.of rfl (hts _ (xin_t14 _ (x_sub (big := tables_1_14) (ws := [.castable "AgreedStore$Letter" "java/lang/Object"]) [206] rfl _ (List.mem_singleton.mpr rfl)))), va_AO.of o4, va_AO.of o5, va_AO.of o6, va_AO.of o7⟩
  · by_cases q1 : a = b
    · subst q1
      simp only [if_true]
      exact Or.inr (Or.inr ⟨Or.inl rfl, scr, x1, x2.1, x3, rfl, x4, x5⟩)
    · by_cases q2 : a = a9
      · subst q2
        simp only [if_neg q1, if_true]
        refine Or.inr (Or.inr ⟨Or.inr ⟨rfl, rfl⟩, cell9, g3, g7.1, g8, ?_, hz, fun j hj => absurd hj (Nat.not_lt_zero j)⟩)
        show cell9.cls = a4
        rw [g6]
        have h4 := c4
        obtain ⟨-, -, -, -, -, h5⟩ := h4
        exact Option.some.inj (g2.symm.trans h5)
      · exfalso
        simp only [if_neg q1, if_neg q2] at ha
        exact ha rfl
end ZE
