/-! what the interpreter does without a write, the machine does -/
theorem x_cs {α : Type} {a b : α} (h : some a = some b) : a = b := Option.some.inj h
theorem xg_at {ls : Array Slot} {nL : Nat} : ∀ {lv : xL} (_ : ∀ q ∈ lv, ls[q.1]? = some (.val q.2)) {i : Nat} {v : Value}, xg lv i = some v → ls[i]? = some (.val v)
  | [], _, _, _, h => by simp [xg] at h
  | q :: l, hl, i, v, h => by
    unfold xg at h
    split at h
    next hq => cases h; subst hq; exact hl q List.mem_cons_self
    next hq => exact xg_at (nL := nL) (fun q hq => hl q (List.mem_cons_of_mem _ hq)) h
theorem xg_has {ls : Array Slot} {nL : Nat} {lv : xL} (hl : lv_has ls nL lv) {i : Nat} {v : Value} (h : xg lv i = some v) : ls[i]? = some (.val v) := xg_at (nL := nL) hl.2.2 h
theorem xj_ok {pc : Nat} {off : Int} (h : 0 ≤ (pc : Int) + off) : (pc : Int) + off = ((xj pc off : Nat) : Int) := (Int.toNat_of_nonneg h).symm
/-- what lies at an address -/
def xcellR (D : va_G) (dA : Nat → ClassId) (base a : Nat) (x : xC) (H : Heap) : Prop :=
  (1 ≤ x.1 ∧ x.1 ≤ 17 ∧ base ≤ a ∧ t_OB a (D.1 (x.1 - 1)) (xCl (x.1 - 1)).2.2 (D.2 (x.1 - 1)) H x.2.2) ∨
  (20 ≤ x.1 ∧ x.1 ≤ 27 ∧ base ≤ a ∧ H[a]? = some (arrV (dA (x.1 - 20)) x.2.1 x.2.2) ∧ ∀ j, j < x.2.1 → fits (xTy.getD (x.1 - 20) .int) (x.2.2 j) = true) ∨
  ((x.1 = 99 ∨ (x.1 = 24 ∧ x.2.1 = 0)) ∧ ∃ scr : Cell, H[a]? = some scr ∧ (∀ k, scr.vm ≠ .statics k) ∧ scr.vm ≠ .unknown ∧ scr.cls = (if x.1 = 99 then dA 8 else dA 4) ∧ scr.slots.size = x.2.1 ∧ ∀ j : Nat, j < x.2.1 → scr.slots[j]? = some (x.2.2 j))
def xRp (G0 : Heap) (D : va_G) (dA : Nat → ClassId) (base : Nat) (h : xH) (H : Heap) : Prop := H.size = h.2.1 ∧ (∀ a, (h.1 a).1 ≠ 0 → xcellR D dA base a (h.1 a) H) ∧ ∀ a : Nat, a < base → H[a]? = G0[a]?
def xtys (dA : Nat → ClassId) : List (ClassId × FieldType) := [(dA 0, .int), (dA 1, .long), (dA 2, .byte), (dA 3, .boolean), (dA 4, .object "java/lang/Object"), (dA 5, .object "AgreedStore$Server"), (dA 6, .object "AgreedStore$Client"), (dA 7, .object "AgreedStore$Page")]
/-- a letter may stand among Objects; arrays of objects may be made -/
def xY1 (U : State) : Prop := va_Nw (.castable "AgreedStore$Letter" "java/lang/Object") U ∧ va_AO "java/lang/Object" U ∧ va_AO "AgreedStore$Server" U ∧ va_AO "AgreedStore$Client" U ∧ va_AO "AgreedStore$Page" U
theorem xY1.warm {u U : State} (hW : u.WarmedH U.vm) (h : xY1 u) : xY1 U := ⟨va_Nw.warmC hW h.1, va_AO.moved hW.alike h.2.1, va_AO.moved hW.alike h.2.2.1, va_AO.moved hW.alike h.2.2.2.1, va_AO.moved hW.alike h.2.2.2.2⟩
theorem xY1.same {u U : State} (hv : u.vm = U.vm) (h : xY1 u) : xY1 U := ⟨va_Nw.same rfl hv h.1, va_AO.moved (by rw [hv]; exact Vm.Alike.refl _) h.2.1, va_AO.moved (by rw [hv]; exact Vm.Alike.refl _) h.2.2.1, va_AO.moved (by rw [hv]; exact Vm.Alike.refl _) h.2.2.2.1, va_AO.moved (by rw [hv]; exact Vm.Alike.refl _) h.2.2.2.2⟩
/-- what is known of the classes -/
def xKn (Y : State → Prop) (D : va_G) (dA : Nat → ClassId) (U : State) : Prop := va_K D vwCl (xtys dA) U ∧ (∃ (k : Class) (comp : ClassId), U.vm.classes[dA 8]? = some k ∧ k.kind = .array comp .int) ∧ (∀ q ∈ xnT, va_Nw (xwN q) U) ∧ (∀ U' : State, U.vm.Alike U'.vm → Y U') ∧ xY1 U
theorem xKn.warm {Y : State → Prop} {D : va_G} {dA : Nat → ClassId} {u U : State} (hW : u.WarmedH U.vm) (h : xKn Y D dA u) : xKn Y D dA U := by
  obtain ⟨h1, ⟨k, comp, h2, h3⟩, h4, h5, h6⟩ := h
  obtain ⟨k', hk', he⟩ := hW.alike.2.2 _ _ h2
  exact ⟨h1.moved hW.alike, ⟨k', comp, hk', by rw [he]; exact h3⟩, fun q hq => va_Nw.warmM hW (h4 q hq), fun U' hU' => h5 U' (hW.alike.trans hU'), h6.warm hW⟩
theorem xKn.same {Y : State → Prop} {D : va_G} {dA : Nat → ClassId} {u U : State} (hv : u.vm = U.vm) (h : xKn Y D dA u) : xKn Y D dA U := by
  obtain ⟨h1, ⟨k, comp, h2, h3⟩, h4, h5, h6⟩ := h
  exact ⟨h1.moved (by rw [hv]; exact Vm.Alike.refl _), ⟨k, comp, by rw [← hv]; exact h2, h3⟩, fun q hq => va_Nw.same rfl hv (h4 q hq), fun U' hU' => h5 U' (by rw [hv]; exact hU'), h6.same hv⟩
theorem x_arr {Y : State → Prop} {D : va_G} {dA : Nat → ClassId} {s : State} (hK : xKn Y D dA s) {j : Nat} {ty : FieldType} (h : (xtys dA)[j]? = some (dA j, ty)) (n : Nat) (f : Nat → Value) : s.isArrayOf (arrV (dA j) n f) ty := (hK.1.2 j _ h).1 n f
theorem x_cl (ci : Nat) (h : ci < 17) : vwCl[ci]? = some (xCl ci) := by
  match ci, h with
  | 0, _ | 1, _ | 2, _ | 3, _ | 4, _ | 5, _ | 6, _ | 7, _ | 8, _ | 9, _ | 10, _ | 11, _ | 12, _ | 13, _ | 14, _ | 15, _ | 16, _ => rfl
  | n + 17, h => exact absurd h (by omega)
theorem x_look {α β : Type} [BEq α] [LawfulBEq α] : ∀ {l : List (α × β)} {a : α} {b : β}, l.lookup a = some b → (a, b) ∈ l
  | [], _, _, h => by simp at h
  | q :: l, a, b, h => by
    rw [List.lookup_cons] at h
    split at h
    next hq => cases h; have := eq_of_beq hq; subst this; exact List.mem_cons_self
    next hq => exact List.mem_cons_of_mem _ (x_look h)
theorem x_cR {o idx : Nat} {v : Int32} (h : xcR o idx = some v) : Jvm.Cond.constant (xOwn o) idx v ∈ xALL := xALL_g (xcT_in _ (List.mem_map.mpr ⟨_, x_look h, rfl⟩)) rfl
theorem x_lR {o idx : Nat} {v : Int64} (h : xlR o idx = some v) : Jvm.Cond.constantLong (xOwn o) idx v ∈ xALL := xALL_g (xlT_in _ (List.mem_map.mpr ⟨_, x_look h, rfl⟩)) rfl
theorem x_kR {o idx ci : Nat} (h : xkR o idx = some ci) : Jvm.Cond.classLink (xOwn o) idx (xCl ci).1 ∈ xALL := xALL_g (xkT_in _ (List.mem_map.mpr ⟨_, x_look h, rfl⟩)) rfl
theorem x_kT_ok : ∀ q ∈ xkT, 3 ≤ q.2 ∧ q.2 < 17 := by decide +kernel
theorem x_fT_ok : ∀ q ∈ xfT, 3 ≤ q.2.1 ∧ q.2.1 < 17 ∧ q.2.2 < (xCl q.2.1).2.2 := by decide +kernel
theorem x_fR {o idx ci k : Nat} (h : xfR o idx = some (ci, k)) : Jvm.Cond.fieldLink (xOwn o) idx ((xCl ci).2.1 k).1 ((xCl ci).2.1 k).2.1 ((xCl ci).2.1 k).2.2.1 ∈ xALL ∧ 3 ≤ ci ∧ ci < 17 ∧ k < (xCl ci).2.2 := ⟨xALL_g (xfT_in _ (List.mem_map.mpr ⟨_, x_look h, rfl⟩)) rfl, x_fT_ok _ (x_look h)⟩
theorem x_layg {C : String} {T : u_T} {N : Nat} (h : ∀ w ∈ u_ws C T N, w ∈ lw_tbl) : ∀ w ∈ u_ws C T N, w ∈ xALL := by
  intro w hw
  refine xALL_g (h w hw) ?_
  obtain ⟨k, -, rfl⟩ := List.mem_map.mp hw
  unfold u_lay
  split <;> rfl
theorem x_lay (ci : Nat) (h3 : 3 ≤ ci) (h : ci < 17) : ∀ w ∈ u_ws (xCl ci).1 (xCl ci).2.1 (xCl ci).2.2, w ∈ xALL := by
  match ci, h3, h with
  | 3, _, _ => exact x_layg xly_Jx4a65c
  | 4, _, _ => exact x_layg xly_X0
  | 5, _, _ => exact x_layg xly_X1
  | 6, _, _ => exact x_layg xly_X2
  | 7, _, _ => exact x_layg xly_X3
  | 8, _, _ => exact x_layg xly_X4
  | 9, _, _ => exact x_layg xly_X5
  | 10, _, _ => exact x_layg xly_X6
  | 11, _, _ => exact x_layg xly_X7
  | 12, _, _ => exact x_layg xly_X8
  | 13, _, _ => exact x_layg xly_X9
  | 14, _, _ => exact x_layg xly_X10
  | 15, _, _ => exact x_layg xly_X11
  | 16, _, _ => exact x_layg xly_X12
  | 0, h, _ => exact absurd h (by omega)
  | 1, h, _ => exact absurd h (by omega)
  | 2, h, _ => exact absurd h (by omega)
  | n + 17, _, h => exact absurd h (by omega)
section XS1
variable {p : Program} {l : Launch} {e : Env} {R : Room} {s : State} {m : MethodId} {args : Array Value} {below : List Frame} {meth : Method} {c : Code} {H : Heap} {locs : List Loc} {cells slots : Nat} {Q : State → Prop}
variable {cc : ByteArray} {pc nL : Nat} {ls : Array Slot} {rest : List Value} {G0 : Heap} {Y : State → Prop} {D : va_G} {dA : Nat → ClassId} {base : Nat} {h : xH}
theorem x_if0 (hx : p.tables.exec = Jvm.exec) (hb : c.code = cc) {k : Jvm.ClassFile.Cond} {x : Int32} {off : Int} {tgt : Nat} (hd : decode cc pc = .ok (.ifCond k off, 3)) (ht : (pc : Int) + off = (tgt : Int))
    (kt : xc0 k x = true → W p l e R s m args below meth c H locs cells slots Q (F0 m tgt ls rest)) (kf : ¬ xc0 k x = true → W p l e R s m args below meth c H locs cells slots Q (F0 m (pc + 3) ls rest)) : W p l e R s m args below meth c H locs cells slots Q (F0 m pc ls (.int x :: rest)) := by
  cases k with
  | eq => exact lv_if_eq hx hb hd ht (fun q => kt (by simp [xc0, q])) (fun q => kf (by simp [xc0, q]))
  | ne => exact lv_if_ne hx hb hd ht (fun q => kt (by simp [xc0, q])) (fun q => kf (by simp [xc0, q]))
  | lt => exact lv_if_lt hx hb hd ht (fun q => kt (decide_eq_true q)) (fun q => kf (fun z => q (of_decide_eq_true z)))
  | ge => exact lv_if_ge hx hb hd ht (fun q => kt (decide_eq_true q)) (fun q => kf (fun z => q (of_decide_eq_true z)))
  | gt => exact lv_if_gt hx hb hd ht (fun q => kt (decide_eq_true q)) (fun q => kf (fun z => q (of_decide_eq_true z)))
  | le => exact lv_if_le hx hb hd ht (fun q => kt (decide_eq_true q)) (fun q => kf (fun z => q (of_decide_eq_true z)))
theorem x_if2 (hx : p.tables.exec = Jvm.exec) (hb : c.code = cc) {k : Jvm.ClassFile.Cond} {x y : Int32} {off : Int} {tgt : Nat} (hd : decode cc pc = .ok (.if_icmp k off, 3)) (ht : (pc : Int) + off = (tgt : Int))
    (kt : xc2 k x y = true → W p l e R s m args below meth c H locs cells slots Q (F0 m tgt ls rest)) (kf : ¬ xc2 k x y = true → W p l e R s m args below meth c H locs cells slots Q (F0 m (pc + 3) ls rest)) : W p l e R s m args below meth c H locs cells slots Q (F0 m pc ls (.int y :: .int x :: rest)) := by
  cases k with
  | eq => exact lv_icmp_eq hx hb hd ht (fun q => kt (by simp [xc2, q])) (fun q => kf (by simp [xc2, q]))
  | ne => exact lv_icmp_ne hx hb hd ht (fun q => kt (by simp [xc2, q])) (fun q => kf (by simp [xc2, q]))
  | lt => exact lv_icmp_lt hx hb hd ht (fun q => kt (decide_eq_true q)) (fun q => kf (fun z => q (of_decide_eq_true z)))
  | ge => exact lv_icmp_ge hx hb hd ht (fun q => kt (decide_eq_true q)) (fun q => kf (fun z => q (of_decide_eq_true z)))
  | gt => exact lv_icmp_gt hx hb hd ht (fun q => kt (decide_eq_true q)) (fun q => kf (fun z => q (of_decide_eq_true z)))
  | le => exact lv_icmp_le hx hb hd ht (fun q => kt (decide_eq_true q)) (fun q => kf (fun z => q (of_decide_eq_true z)))
/-- a read of an array, given the machine's row -/
theorem x_ald (hR : xRp G0 D dA base h H) {i : Int32} {a : Nat} {j : Nat} {ty : FieldType} (hK : xKn Y D dA s) (hj : (xtys dA)[j]? = some (dA j, ty)) (ht : (h.1 a).1 = 20 + j) (hj7 : j ≤ 7) (hi : ¬ (i < 0 ∨ (h.1 a).2.1 ≤ i.toNatClampNeg)) :
    ∃ cell : Cell, H[a]? = some cell ∧ s.isArrayOf cell ty ∧ cell.vm ≠ .unknown ∧ ¬ (i < 0 ∨ cell.slots.size ≤ i.toNatClampNeg) ∧ cell.slots[i.toNatClampNeg]? = some ((h.1 a).2.2 i.toNatClampNeg) := by
  rcases hR.2.1 a (by omega) with ⟨-, h2, -⟩ | ⟨-, -, -, h4, -⟩ | ⟨h5, -⟩
  · omega
  · rw [show (h.1 a).1 - 20 = j by omega] at h4
    refine ⟨_, h4, x_arr hK hj _ _, (fun q => by cases q), by rw [arrV_size]; exact hi, ?_⟩
    rw [arrV_read _ _ (Nat.not_le.mp fun q => hi (Or.inr q))]
  · exact absurd (Or.inr (by omega)) hi
theorem x_aldS (hR : xRp G0 D dA base h H) {i : Int32} {a : Nat} (hK : xKn Y D dA s) (ht : (h.1 a).1 = 99) (hi : ¬ (i < 0 ∨ (h.1 a).2.1 ≤ i.toNatClampNeg)) :
    ∃ cell : Cell, H[a]? = some cell ∧ s.isArrayOf cell .int ∧ cell.vm ≠ .unknown ∧ ¬ (i < 0 ∨ cell.slots.size ≤ i.toNatClampNeg) ∧ cell.slots[i.toNatClampNeg]? = some ((h.1 a).2.2 i.toNatClampNeg) := by
  rcases hR.2.1 a (by omega) with ⟨-, h2, -⟩ | ⟨-, h3, -, h4, -⟩ | ⟨-, scr, h5, h6, h7, h8, h9, h10⟩
  · omega
  · omega
  · obtain ⟨k, comp, k1, k2⟩ := hK.2.1
    rw [if_pos ht] at h8
    exact ⟨scr, h5, ⟨h6, k, by rw [h8]; exact k1, comp, k2⟩, h7, by rw [h9]; exact hi, h10 _ (Nat.not_le.mp fun q => hi (Or.inr q))⟩
theorem x_alen (hR : xRp G0 D dA base h H) {a : Nat} (hK : xKn Y D dA s) (ht : 20 ≤ (h.1 a).1) :
    ∃ (cell : Cell) (ty : FieldType), H[a]? = some cell ∧ s.isArrayOf cell ty ∧ cell.slots.size.toInt32 = Int32.ofNat (h.1 a).2.1 := by
  rcases hR.2.1 a (by omega) with ⟨-, h2, -⟩ | ⟨-, h3, -, h4, -⟩ | ⟨-, scr, h5, h6, h7, h8, h9, h10⟩
  · omega
  · have hz : ∀ j, j ≤ 7 → ∃ ty, (xtys dA)[j]? = some (dA j, ty) := by
      intro j hj
      match j, hj with
      | 0, _ | 1, _ | 2, _ | 3, _ | 4, _ | 5, _ | 6, _ | 7, _ => exact ⟨_, rfl⟩
      | n + 8, hj => exact absurd hj (by omega)
    obtain ⟨ty, hty⟩ := hz ((h.1 a).1 - 20) (by omega)
    exact ⟨_, ty, h4, x_arr hK hty _ _, by rw [arrV_size]⟩
  · by_cases h99 : (h.1 a).1 = 99
    · rw [if_pos h99] at h8
      obtain ⟨k, comp, k1, k2⟩ := hK.2.1
      exact ⟨scr, .int, h5, ⟨h6, k, by rw [h8]; exact k1, comp, k2⟩, by rw [h9]⟩
    · rw [if_neg h99] at h8
      obtain ⟨k, comp, k1, k2, -⟩ := (hK.1.2 4 _ (rfl : (xtys dA)[4]? = some (dA 4, .object "java/lang/Object"))).2
      exact ⟨scr, .object "java/lang/Object", h5, ⟨h6, k, by rw [h8]; exact k1, comp, k2⟩, by rw [h9]⟩
end XS1
