theorem xAb_mem (w : Jvm.Cond) (h : xAb.contains w = true) : w ∈ xAb := by simpa using h
theorem x_ge0 {z : Int32} (hz : ¬ z < 0) : z.toInt = (z.toNatClampNeg : Int) := by
  have hz0 : (0 : Int) ≤ z.toInt := by
    have := Int32.not_lt.mp hz
    simpa using Int32.le_iff_toInt_le.mp this
  show z.toInt = ((z.toInt.toNat : Nat) : Int)
  omega
theorem x_fbyte (x : Int32) : fits .byte (.int x.toInt8.toInt32) = true := by
  have h1 := x.toInt8.toInt_lt
  have h2 := x.toInt8.le_toInt
  simp only [fits, Bool.and_eq_true, decide_eq_true_eq, Int32.le_iff_toInt_le, Int8.toInt_toInt32]
  constructor
  · show (-128 : Int) ≤ _
    omega
  · show _ ≤ (127 : Int)
    omega
theorem x_fbool (x : Int32) : fits .boolean (.int (x &&& 1)) = true := by
  have h0 : (x &&& 1).toBitVec.toNat = x.toBitVec.toNat % 2 := by
    rw [Int32.toBitVec_and, BitVec.toNat_and]
    exact Nat.and_one_is_mod _
  have h : x &&& 1 = 0 ∨ x &&& 1 = 1 := by
    rcases Nat.mod_two_eq_zero_or_one x.toBitVec.toNat with q | q
    · left; rw [q] at h0; exact Int32.toBitVec_inj.mp (BitVec.eq_of_toNat_eq h0)
    · right; rw [q] at h0; exact Int32.toBitVec_inj.mp (BitVec.eq_of_toNat_eq h0)
  rcases h with h | h <;> rw [h] <;> rfl
theorem x_nfw : nativeFrameWords "java/lang/System" "arraycopy" 5 ≤ 40 := by decide +kernel
section XS4
variable {p : Program} {l : Launch} {e : Env} {R : Room} {s : State} {m : MethodId} {args : Array Value} {below : List Frame} {meth : Method} {c : Code} {H : Heap} {locs : List Loc} {cells slots : Nat} {Q : State → Prop}
variable {cc : ByteArray} {pc nL : Nat} {ls : Array Slot} {G0 : Heap} {Y : State → Prop} {D : va_G} {dA : Nat → ClassId} {base : Nat} {h : xH}
theorem x_arrj (hR : xRp G0 D dA base h H) {a j : Nat} (ht : (h.1 a).1 = 20 + j) (hj : j ≤ 7) (hz : 0 < (h.1 a).2.1 ∨ j ≠ 4) : (0 < (h.1 a).2.1 ∨ j ≠ 4 → base ≤ a) ∧ H[a]? = some (arrV (dA j) (h.1 a).2.1 (h.1 a).2.2) ∧ ∀ i, i < (h.1 a).2.1 → fits (xTy.getD j .int) ((h.1 a).2.2 i) = true := by
  rcases hR.2.1 a (by omega) with ⟨-, h2, -⟩ | ⟨-, -, h3, h4, h5⟩ | ⟨h5, -⟩
  · omega
  · rw [show (h.1 a).1 - 20 = j by omega] at h4 h5
    exact ⟨fun _ => h3, h4, h5⟩
  · omega
/-- the heap after a write to an array -/
theorem x_setA (hR : xRp G0 D dA base h H) {a j k : Nat} {v : Value} {H1 : Heap} (ht : (h.1 a).1 = 20 + j) (hj : j ≤ 7) (hlen : 0 < (h.1 a).2.1) (hv : fits (xTy.getD j .int) v = true) (e : H1[a]? = some ((arrV (dA j) (h.1 a).2.1 (h.1 a).2.2).setSlot k v)) (z : H1.size = H.size) (oq : ∀ q, q ≠ a → H1[q]? = H[q]?) :
    xRp G0 D dA base (xset h.1 a ((h.1 a).1, (h.1 a).2.1, updV (h.1 a).2.2 k v), h.2) H1 := by
  obtain ⟨h1, h2, h3⟩ := x_arrj hR ht hj (Or.inl hlen)
  have h1 := h1 (Or.inl hlen)
  refine hR.set h1 z oq (Or.inr (Or.inl ⟨by show 20 ≤ (h.1 a).1; omega, by show (h.1 a).1 ≤ 27; omega, h1, ?_, ?_⟩))
  · show H1[a]? = some (arrV (dA ((h.1 a).1 - 20)) _ _)
    rw [show (h.1 a).1 - 20 = j by omega, e, arrV_store]
  · show ∀ i, i < (h.1 a).2.1 → fits (xTy.getD ((h.1 a).1 - 20) .int) (updV (h.1 a).2.2 k v i) = true
    rw [show (h.1 a).1 - 20 = j by omega]
    intro i hi
    unfold updV
    split
    · exact hv
    · exact h3 i hi
/-- System.arraycopy between arrays of numbers -/
theorem x_copy (hx : p.tables.exec = Jvm.exec) (hb : c.code = cc) (hml : c.maxLocals = ls.size) {o : Nat} (hown : s.vm.findClass (xOwn o) = some m.cls) (hts : ∀ w ∈ xALL, w.before args s = true) (hK : xKn Y D dA s) (hR : xRp G0 D dA base h H)
    (hR1 : 1 ≤ R.frames) (hR2 : 60 ≤ R.locals) (hL : ∀ q ∈ locs, base ≤ q.base) {idx : Nat} (hi : (o, idx) ∈ xCp) {a a0 : Nat} {sp dp n : Int32} {rest : List Value} {j : Nat} {ty : FieldType} (ht : (h.1 a).1 = 20 + j) (ht0 : (h.1 a0).1 = 20 + j) (hj : j ≤ 7) (hj4 : j ≠ 4) (hty : (xtys dA)[j]? = some (dA j, ty)) (hyy : xTy.getD j .int = ty) (hprim : refKind ty = false)
    (h1 : ¬ sp < 0) (h2 : ¬ dp < 0) (h3 : ¬ n < 0) (h4 : sp.toNatClampNeg + n.toNatClampNeg ≤ (h.1 a0).2.1) (h5 : dp.toNatClampNeg + n.toNatClampNeg ≤ (h.1 a).2.1) (hr : xcat rest ≤ 8) (hd : decode cc pc = .ok (.invokestatic idx, 3))
    (kk : ∀ (H' : Heap) (locs' : List Loc), xRp G0 D dA base (xset h.1 a ((h.1 a).1, (h.1 a).2.1, va_cpy (h.1 a0).2.2 (h.1 a).2.2 sp.toNatClampNeg dp.toNatClampNeg n.toNatClampNeg), h.2) H' → (∀ q ∈ locs', base ≤ q.base) → W p l e R s m args below meth c H' locs' cells slots Q (F0 m (pc + 3) ls rest)) : W p l e R s m args below meth c H locs cells slots Q (F0 m pc ls (.int n :: .int dp :: .ref a :: .int sp :: .ref a0 :: rest)) := by
  obtain ⟨ba, hc1, hf1⟩ := x_arrj hR ht hj (Or.inr hj4)
  have ba := ba (Or.inr hj4)
  obtain ⟨-, hc0, hf0⟩ := x_arrj hR ht0 hj (Or.inr hj4)
  rw [hyy] at hf0 hf1
  intro T hT X
  obtain ⟨-, k0, hk0, cm0, hkk0⟩ := x_arr hK hty (h.1 a0).2.1 (h.1 a0).2.2
  obtain ⟨-, k1, hk1, cm1, hkk1⟩ := x_arr hK hty (h.1 a).2.1 (h.1 a).2.2
  have hlk : (Jvm.Cond.methodLink (xOwn o) idx arraycopyName) ∈ xALL := xALL_g (xCp_in _ (List.mem_map.mpr ⟨_, hi, rfl⟩)) rfl
  have hw : ∀ w ∈ ([.native arraycopyName, .static arraycopyName, .initialized "java/lang/System"] : List Jvm.Cond), w ∈ xALL := by
    intro w hw
    refine xALL_g (xAb_in _ ?_) ?_
    · simp only [List.mem_cons, List.not_mem_nil, or_false] at hw
      rcases hw with rfl | rfl | rfl
      · exact xAb_mem _ (by decide +kernel)
      · exact xAb_mem _ (by decide +kernel)
      · exact xAb_mem _ (by decide +kernel)
    · simp only [List.mem_cons, List.not_mem_nil, or_false] at hw
      rcases hw with rfl | rfl | rfl <;> rfl
  have hq : 2 * (F0 m pc ls (.int n :: .int dp :: .ref a :: .int sp :: .ref a0 :: rest)).monitorRoom + (rest.map fun v => v.category).sum + (nativeFrameWords "java/lang/System" "arraycopy" 5 + 11) ≤ R.locals := by
    have := x_nfw
    have hr' : (rest.map fun v => v.category).sum ≤ 8 := hr
    show 2 * 0 + _ + _ ≤ _
    omega
  obtain ⟨vm', X', step⟩ := X.arraycopy hx hown (hts _ hlk) (hts _ (hw _ (by simp))) (hts _ (hw _ (by simp))) (hts _ (hw _ (by simp))) (src := a0) (dst := a) (cs := arrV (dA j) (h.1 a0).2.1 (h.1 a0).2.2) (cd := arrV (dA j) (h.1 a).2.1 (h.1 a).2.2) (srcPos := sp) (destPos := dp) (n := n) (by rw [hT]; exact hc0) (by rw [hT]; exact hc1)
    (fun _ h => by cases h) (fun _ h => by cases h) (fun h => by cases h) (fun h => by cases h) hk0 hk1 hkk0 hkk1 (by simp [hprim]) h1 h2 h3
    (by rw [x_ge0 h1, x_ge0 h3, arrV_size]; omega)
    (by rw [x_ge0 h2, x_ge0 h3, arrV_size]; omega)
    (fun vm₁ _ i hi => by
      have e : (arrV (dA j) (h.1 a0).2.1 (h.1 a0).2.2).slots.getD (sp.toNatClampNeg + i) .null = (h.1 a0).2.2 (sp.toNatClampNeg + i) := by
        rw [Array.getD_eq_getD_getElem?, arrV_read _ _ (by omega)]
        rfl
      refine ⟨?_, ?_⟩
      · rw [e]
        exact hf0 _ (by omega)
      · rw [e]
        have := hf0 (sp.toNatClampNeg + i) (by omega)
        revert this
        generalize (h.1 a0).2.2 (sp.toNatClampNeg + i) = v
        intro hv
        cases v with
        | ref a => cases ty <;> first | (cases hprim; done) | (cases hv; done) | (exact absurd hprim (by simp [refKind]))
        | _ => trivial)
    (g := F0 m pc ls (.int n :: .int dp :: .ref a :: .int sp :: .ref a0 :: rest)) rfl (by rw [hml]) (rest := rest) rfl (by rw [hb]; exact hd) hR1 hq
  have e1 : copied (arrV (dA j) (h.1 a0).2.1 (h.1 a0).2.2) (arrV (dA j) (h.1 a).2.1 (h.1 a).2.2) sp dp n = arrV (dA j) (h.1 a).2.1 (va_cpy (h.1 a0).2.2 (h.1 a).2.2 sp.toNatClampNeg dp.toNatClampNeg n.toNatClampNeg) := va_copied (fun z => z) (dA j) (dA j) (h.1 a0).2.2 (h.1 a).2.2 h4
  rw [e1] at X' step
  have hl : a < H.size := (Array.getElem?_eq_some_iff.mp hc1).1
  have hheap : ((T.setVm vm').setCell a (arrV (dA j) (h.1 a).2.1 (va_cpy (h.1 a0).2.2 (h.1 a).2.2 sp.toNatClampNeg dp.toNatClampNeg n.toNatClampNeg))).heap = H.setIfInBounds a (arrV (dA j) (h.1 a).2.1 (va_cpy (h.1 a0).2.2 (h.1 a).2.2 sp.toNatClampNeg dp.toNatClampNeg n.toNatClampNeg)) := by rw [← hT]; rfl
  obtain ⟨t, a1, b1⟩ := kk _ _ (hR.set (H1 := H.setIfInBounds a (arrV (dA j) (h.1 a).2.1 (va_cpy (h.1 a0).2.2 (h.1 a).2.2 sp.toNatClampNeg dp.toNatClampNeg n.toNatClampNeg))) ba (by simp) (fun q hq => by simp [Array.getElem?_setIfInBounds, Ne.symm hq]) (Or.inr (Or.inl ⟨by show 20 ≤ (h.1 a).1; omega, by show (h.1 a).1 ≤ 27; omega, ba, by
        show (H.setIfInBounds a _)[a]? = some (arrV (dA ((h.1 a).1 - 20)) _ _)
        rw [show (h.1 a).1 - 20 = j by omega]
        simp [Array.getElem?_setIfInBounds, hl], by
        show ∀ i, i < (h.1 a).2.1 → fits (xTy.getD ((h.1 a).1 - 20) .int) (va_cpy _ _ _ _ _ i) = true
        rw [show (h.1 a).1 - 20 = j by omega, hyy]
        intro i hi
        unfold va_cpy
        split
        · exact hf0 _ (by omega)
        · exact hf1 i hi⟩))) (fun q hq => by
      rcases List.mem_append.mp hq with h | h
      · exact hL q h
      · obtain ⟨z, -, hz⟩ := List.mem_map.mp h
        rw [← hz]
        exact ba) _ hheap X'
  exact ⟨t, step t a1, b1⟩
/-- System.arraycopy between arrays of Objects that hold letters -/
theorem x_copyq (hx : p.tables.exec = Jvm.exec) (hb : c.code = cc) (hml : c.maxLocals = ls.size) {o : Nat} (hown : s.vm.findClass (xOwn o) = some m.cls) (hts : ∀ w ∈ xALL, w.before args s = true) (hK : xKn Y D dA s) (hR : xRp G0 D dA base h H)
    (hR1 : 1 ≤ R.frames) (hR2 : 60 ≤ R.locals) (hL : ∀ q ∈ locs, base ≤ q.base) {idx : Nat} (hi : (o, idx) ∈ xCp) {a a0 : Nat} {sp dp n : Int32} {rest : List Value} (ht : (h.1 a).1 = 20 + 4) (ht0 : (h.1 a0).1 = 20 + 4) (hal : 0 < (h.1 a).2.1) (hal0 : 0 < (h.1 a0).2.1) (hel : (List.range n.toNatClampNeg).all (fun i => xlet h ((h.1 a0).2.2 (sp.toNatClampNeg + i))) = true)
    (h1 : ¬ sp < 0) (h2 : ¬ dp < 0) (h3 : ¬ n < 0) (h4 : sp.toNatClampNeg + n.toNatClampNeg ≤ (h.1 a0).2.1) (h5 : dp.toNatClampNeg + n.toNatClampNeg ≤ (h.1 a).2.1) (hr : xcat rest ≤ 8) (hd : decode cc pc = .ok (.invokestatic idx, 3))
    (kk : ∀ (H' : Heap) (locs' : List Loc), xRp G0 D dA base (xset h.1 a ((h.1 a).1, (h.1 a).2.1, va_cpy (h.1 a0).2.2 (h.1 a).2.2 sp.toNatClampNeg dp.toNatClampNeg n.toNatClampNeg), h.2) H' → (∀ q ∈ locs', base ≤ q.base) → W p l e R s m args below meth c H' locs' cells slots Q (F0 m (pc + 3) ls rest)) : W p l e R s m args below meth c H locs cells slots Q (F0 m pc ls (.int n :: .int dp :: .ref a :: .int sp :: .ref a0 :: rest)) := by
  have hj : 4 ≤ 7 := by omega
  have hty : (xtys dA)[4]? = some (dA 4, .object "java/lang/Object") := rfl
  have hyy : xTy.getD 4 .int = .object "java/lang/Object" := rfl
  obtain ⟨ba, hc1, hf1⟩ := x_arrj hR ht hj (Or.inl hal)
  have ba := ba (Or.inl hal)
  obtain ⟨-, hc0, hf0⟩ := x_arrj hR ht0 hj (Or.inl hal0)
  rw [hyy] at hf0 hf1
  intro T hT X
  obtain ⟨-, k0, hk0, cm0, hkk0⟩ := x_arr hK hty (h.1 a0).2.1 (h.1 a0).2.2
  obtain ⟨-, k1, hk1, cm1, hkk1⟩ := x_arr hK hty (h.1 a).2.1 (h.1 a).2.2
  have hlk : (Jvm.Cond.methodLink (xOwn o) idx arraycopyName) ∈ xALL := xALL_g (xCp_in _ (List.mem_map.mpr ⟨_, hi, rfl⟩)) rfl
  have hw : ∀ w ∈ ([.native arraycopyName, .static arraycopyName, .initialized "java/lang/System"] : List Jvm.Cond), w ∈ xALL := by
    intro w hw
    refine xALL_g (xAb_in _ ?_) ?_
    · simp only [List.mem_cons, List.not_mem_nil, or_false] at hw
      rcases hw with rfl | rfl | rfl
      · exact xAb_mem _ (by decide +kernel)
      · exact xAb_mem _ (by decide +kernel)
      · exact xAb_mem _ (by decide +kernel)
    · simp only [List.mem_cons, List.not_mem_nil, or_false] at hw
      rcases hw with rfl | rfl | rfl <;> rfl
  have hq : 2 * (F0 m pc ls (.int n :: .int dp :: .ref a :: .int sp :: .ref a0 :: rest)).monitorRoom + (rest.map fun v => v.category).sum + (nativeFrameWords "java/lang/System" "arraycopy" 5 + 11) ≤ R.locals := by
    have := x_nfw
    have hr' : (rest.map fun v => v.category).sum ≤ 8 := hr
    show 2 * 0 + _ + _ ≤ _
    omega
  obtain ⟨vm', X', step⟩ := X.arraycopy hx hown (hts _ hlk) (hts _ (hw _ (by simp))) (hts _ (hw _ (by simp))) (hts _ (hw _ (by simp))) (src := a0) (dst := a) (cs := arrV (dA 4) (h.1 a0).2.1 (h.1 a0).2.2) (cd := arrV (dA 4) (h.1 a).2.1 (h.1 a).2.2) (srcPos := sp) (destPos := dp) (n := n) (by rw [hT]; exact hc0) (by rw [hT]; exact hc1)
    (fun _ h => by cases h) (fun _ h => by cases h) (fun h => by cases h) (fun h => by cases h) hk0 hk1 hkk0 hkk1 rfl h1 h2 h3
    (by rw [x_ge0 h1, x_ge0 h3, arrV_size]; omega)
    (by rw [x_ge0 h2, x_ge0 h3, arrV_size]; omega)
    (fun vm₁ hal i hi => by
      have e : (arrV (dA 4) (h.1 a0).2.1 (h.1 a0).2.2).slots.getD (sp.toNatClampNeg + i) .null = (h.1 a0).2.2 (sp.toNatClampNeg + i) := by
        rw [Array.getD_eq_getD_getElem?, arrV_read _ _ (by omega)]
        rfl
      rw [e]
      have hq := List.all_eq_true.mp hel i (List.mem_range.mpr hi)
      revert hq
      generalize (h.1 a0).2.2 (sp.toNatClampNeg + i) = v
      intro hq
      cases v with
      | null => exact ⟨rfl, trivial⟩
      | ref y =>
        have hy : (h.1 y).1 = 8 + 1 := by simpa [xlet] using hq
        obtain ⟨-, cellV, g1, g2, g3, -⟩ := x_obj hR hy (by omega)
        have hcls := (hK.1.1 8 _ (x_cl 8 (by omega))).2
        obtain ⟨kC, hkC, -⟩ := hcls.2
        obtain ⟨kA, comp, r1, r2, r3, -⟩ := (hK.1.2 4 _ hty).2
        cases hk1.symm.trans r1
        cases hkk1.symm.trans r2
        obtain ⟨kE, hkE, -⟩ := Vm.findClass_spec r3
        obtain ⟨kC', hkC', -⟩ := hal.2.2 _ _ hkC
        obtain ⟨kE', hkE', -⟩ := hal.2.2 _ _ hkE
        obtain ⟨c0, t1, f1, f2, f3⟩ := Cond.castable_spec (va_Nw.use (A := args) rfl hK.2.2.2.2.1)
        cases hcls.1.symm.trans f1
        cases r3.symm.trans f2
        refine ⟨rfl, cellV, (show T.heap[y]? = some cellV by rw [hT]; exact g1), (fun q h => by rw [h] at g3; cases g3), ⟨kC', by rw [g2]; exact hkC'⟩, ⟨kE', hkE'⟩, ?_⟩
        show vm₁.assignable _ _ = true
        rw [hal.assignable, g2]
        exact f3
      | int x => cases hq
      | long x => cases hq
      | float x => cases hq
      | double x => cases hq
      | retAddr x => cases hq)
    (g := F0 m pc ls (.int n :: .int dp :: .ref a :: .int sp :: .ref a0 :: rest)) rfl (by rw [hml]) (rest := rest) rfl (by rw [hb]; exact hd) hR1 hq
  have e1 : copied (arrV (dA 4) (h.1 a0).2.1 (h.1 a0).2.2) (arrV (dA 4) (h.1 a).2.1 (h.1 a).2.2) sp dp n = arrV (dA 4) (h.1 a).2.1 (va_cpy (h.1 a0).2.2 (h.1 a).2.2 sp.toNatClampNeg dp.toNatClampNeg n.toNatClampNeg) := va_copied (fun z => z) (dA 4) (dA 4) (h.1 a0).2.2 (h.1 a).2.2 h4
  rw [e1] at X' step
  have hl : a < H.size := (Array.getElem?_eq_some_iff.mp hc1).1
  have hheap : ((T.setVm vm').setCell a (arrV (dA 4) (h.1 a).2.1 (va_cpy (h.1 a0).2.2 (h.1 a).2.2 sp.toNatClampNeg dp.toNatClampNeg n.toNatClampNeg))).heap = H.setIfInBounds a (arrV (dA 4) (h.1 a).2.1 (va_cpy (h.1 a0).2.2 (h.1 a).2.2 sp.toNatClampNeg dp.toNatClampNeg n.toNatClampNeg)) := by rw [← hT]; rfl
  obtain ⟨t, a1, b1⟩ := kk _ _ (hR.set (H1 := H.setIfInBounds a (arrV (dA 4) (h.1 a).2.1 (va_cpy (h.1 a0).2.2 (h.1 a).2.2 sp.toNatClampNeg dp.toNatClampNeg n.toNatClampNeg))) ba (by simp) (fun q hq => by simp [Array.getElem?_setIfInBounds, Ne.symm hq]) (Or.inr (Or.inl ⟨by show 20 ≤ (h.1 a).1; omega, by show (h.1 a).1 ≤ 27; omega, ba, by
        show (H.setIfInBounds a _)[a]? = some (arrV (dA ((h.1 a).1 - 20)) _ _)
        rw [show (h.1 a).1 - 20 = 4 by omega]
        simp [Array.getElem?_setIfInBounds, hl], by
        show ∀ i, i < (h.1 a).2.1 → fits (xTy.getD ((h.1 a).1 - 20) .int) (va_cpy _ _ _ _ _ i) = true
        rw [show (h.1 a).1 - 20 = 4 by omega, hyy]
        intro i hi
        unfold va_cpy
        split
        · exact hf0 _ (by omega)
        · exact hf1 i hi⟩))) (fun q hq => by
      rcases List.mem_append.mp hq with h | h
      · exact hL q h
      · obtain ⟨z, -, hz⟩ := List.mem_map.mp h
        rw [← hz]
        exact ba) _ hheap X'
  exact ⟨t, step t a1, b1⟩
end XS4
section XS5
variable {p : Program} {l : Launch} {e : Env} {R : Room} {s : State} {m : MethodId} {args : Array Value} {below : List Frame} {meth : Method} {c : Code} {H : Heap} {locs : List Loc} {Q : State → Prop}
variable {cc : ByteArray} {pc nL : Nat} {ls : Array Slot} {G0 : Heap} {Y : State → Prop} {D : va_G} {dA : Nat → ClassId} {base d t0 u0 : Nat} {h h' : xH} {cF : Nat → List Value → xH → Option (Option Value × xH)}
theorem x_words {w : Jvm.Cond} (h : xAb.contains w = true) (g : goodWord w = true) : w ∈ xALL := xALL_g (xAb_in _ (xAb_mem _ h)) g
theorem x_default (ci k : Nat) (ty : FieldType) (h : xfty ci k = some ty) : (match xfty ci k with
        | some ty => defaultValue ty
        | none => Value.null) = defaultValue ty := by rw [h]
/-- a write to an array: one row for all kinds -/
theorem x_astk {v : Value} {i : Int32} {a : Nat} {r : List Value} {j : Nat} {lv lv' : xL} {st' : List Value} {pc' : Nat} (hR : xRp G0 D dA base h H) (hL : ∀ q ∈ locs, base ≤ q.base) (hj : j ≤ 7) (hv : fits (xTy.getD j .int) v = true)
    (he : xast pc lv h v i a r (20 + j) = some (pc', lv', st', h'))
    (row : ∀ (ty : FieldType) (cell : Cell), H[a]? = some cell → cell = arrV (dA j) (h.1 a).2.1 (h.1 a).2.2 → cell.vm ≠ .unknown → ¬ (i < 0 ∨ cell.slots.size ≤ i.toNatClampNeg) →
      (∀ H1 : Heap, H1[a]? = some (cell.setSlot i.toNatClampNeg v) → H1.size = H.size → (∀ q, q ≠ a → H1[q]? = H[q]?) → W p l e R s m args below meth c H1 (locs ++ [⟨a, i.toNatClampNeg⟩]) (h'.2.1 - t0) (h'.2.2 - u0) Q (F0 m (pc + 1) ls r)) → W p l e R s m args below meth c H locs (h.2.1 - t0) (h.2.2 - u0) Q (F0 m pc ls (v :: .int i :: .ref a :: r)))
    (kk : lv' = lv → ∀ (H' : Heap) (locs' : List Loc), xRp G0 D dA base h' H' → (∀ q ∈ locs', base ≤ q.base) → W p l e R s m args below meth c H' locs' (h'.2.1 - t0) (h'.2.2 - u0) Q (F0 m pc' ls st')) : W p l e R s m args below meth c H locs (h.2.1 - t0) (h.2.2 - u0) Q (F0 m pc ls (v :: .int i :: .ref a :: r)) := by
  unfold xast at he
  split at he
  next ht =>
    split at he
    next => cases he
    next hi =>
      cases he
      have hl0 : 0 < (h.1 a).2.1 := by omega
      obtain ⟨ba, hc, hf⟩ := x_arrj hR ht hj (Or.inl hl0)
      have ba := ba (Or.inl hl0)
      refine row .int _ hc rfl (fun q => by cases q) (by rw [arrV_size]; exact hi) (fun H1 e1 z1 o1 => ?_)
      exact kk rfl H1 _ (x_setA hR ht hj hl0 hv e1 z1 o1) (x_locs hL ba)
  next => cases he
end XS5
