theorem x_max_ok : xMn xMax = Lib.Math.max.name ∧ xM xMax = some (Lib.Math.max.code, 2, some .int, 2) ∧ xSt.contains xMax = true := by decide +kernel
theorem x_min_ok : xMn xMin = Lib.Math.min.name ∧ xM xMin = some (Lib.Math.min.code, 2, some .int, 2) ∧ xSt.contains xMin = true := by decide +kernel
theorem x_st {y : Nat} (h : xSt.contains y = true) : Jvm.Cond.static (xMn y) ∈ xALL := xALL_g (xSt_in _ (List.mem_map.mpr ⟨_, x_cont h, rfl⟩)) rfl
theorem x_in {y : Nat} (h : xIn.contains y = true) : Jvm.Cond.instanceMethod (xMn y) ∈ xALL := xALL_g (xIn_in _ (List.mem_map.mpr ⟨_, x_cont h, rfl⟩)) rfl
theorem x_se {y : Nat} (h : xSe.contains y = true) : Jvm.Cond.selects (xMn y).cls (xMn y) (xMn y) ∈ xALL := xALL_g (xSe_in _ (List.mem_map.mpr ⟨_, x_cont h, rfl⟩)) rfl
theorem x_it {ci : Nat} (h : xIt.contains ci = true) : Jvm.Cond.instantiable (xCl ci).1 (xCl ci).2.2 ∈ xALL := xALL_g (xIt_in _ (List.mem_map.mpr ⟨_, x_cont h, rfl⟩)) rfl
theorem x_noret {y : Nat} {bytes : ByteArray} {ml n : Nat} {ret : Option FieldType} (h : xnoret y = true) (hM : xM y = some (bytes, ml, ret, n)) : ret = none := by
  unfold xnoret at h
  rw [hM] at h
  cases ret with
  | none => rfl
  | some t => cases h
theorem x_ini_cl : ∀ ci, ci < 17 → (xCl ci).1 ∈ xIni.map xOwn := by
  intro ci h
  match ci, h with
  | 0, _ | 1, _ | 2, _ | 3, _ | 4, _ | 5, _ | 6, _ | 7, _ | 8, _ | 9, _ | 10, _ | 11, _ | 12, _ | 13, _ | 14, _ | 15, _ | 16, _ => decide +kernel
  | n + 17, h => exact absurd h (by omega)
theorem x_own_ci : ∀ ci, ci < 17 → xOwn ci = (xCl ci).1 := by
  intro ci h
  match ci, h with
  | 0, _ | 1, _ | 2, _ | 3, _ | 4, _ | 5, _ | 6, _ | 7, _ | 8, _ | 9, _ | 10, _ | 11, _ | 12, _ | 13, _ | 14, _ | 15, _ | 16, _ => rfl
  | n + 17, h => exact absurd h (by omega)
section XS6
variable {p : Program} {l : Launch} {e : Env} {R : Room} {s : State} {m : MethodId} {args : Array Value} {below : List Frame} {meth : Method} {c : Code} {H : Heap} {locs : List Loc} {Q : State → Prop}
variable {cc : ByteArray} {pc nL : Nat} {ls : Array Slot} {G0 : Heap} {Y : State → Prop} {D : va_G} {dA : Nat → ClassId} {base d t0 u0 : Nat} {h h' : xH} {cF : Nat → List Value → xH → Option (Option Value × xH)}
theorem x_take {st rest : List Value} {n : Nat} (h : st.drop n = rest) : st = (st.take n).reverse.reverse ++ rest := by
  rw [List.reverse_reverse, ← h]
  exact (List.take_append_drop n st).symm
theorem x_virt (hx : p.tables.exec = Jvm.exec) (hb : c.code = cc) (hml : c.maxLocals = nL) {o : Nat} (hown : s.vm.findClass (xOwn o) = some m.cls) (hts : ∀ w ∈ xALL, w.before args s = true) (hK : xKn Y D dA s) (hR : xRp G0 D dA base h H) (hbase : base ≤ h.2.1)
    (hF1 : d + 1 ≤ R.frames) (hF2 : 60 * (d + 1) ≤ R.locals) (hcF : ∀ y as h r h', cF y as h = some (r, h') → xMet l G0 Y D dA base d y as h r h') (ht : t0 ≤ h.2.1) (hu : u0 ≤ h.2.2) (hL : ∀ q ∈ locs, base ≤ q.base)
    {idx y : Nat} (hy : xmR o idx = some y) (hd : decode cc pc = .ok (.invokevirtual idx, 3)) {lv lv' : xL} {st st' : List Value} {pc' : Nat} (hl : lv_has ls nL lv) (he : xvirt cF y pc lv st h = some (pc', lv', st', h')) (hc1 : h'.2.1 - t0 ≤ R.cells) (hc2 : h'.2.2 - u0 ≤ R.slots)
    (kk : lv' = lv → ∀ (H' : Heap) (locs' : List Loc), xRp G0 D dA base h' H' → (∀ q ∈ locs', base ≤ q.base) → W p l e R s m args below meth c H' locs' (h'.2.1 - t0) (h'.2.2 - u0) Q (F0 m pc' ls st')) : W p l e R s m args below meth c H locs (h.2.1 - t0) (h.2.2 - u0) Q (F0 m pc ls st) := by
  unfold xvirt at he
  split at he
  next b rest hdrop =>
    split at he
    next hcnd =>
      obtain ⟨hn, hse, hin, hcls, hp0, hp17⟩ := hcnd
      unfold xcall1 at he
      split at he
      next hcat =>
        split at he
        next r h2 hcf =>
          cases he
          obtain ⟨bytes, ml, ret, n, hM, hm1, hm2, hMet⟩ := hcF _ _ _ _ _ hcf
          have hna : xnargs y = n := by unfold xnargs; rw [hM]
          obtain ⟨-, cell, q1, q2, q3, q4⟩ := x_obj (a := b) (ci := (h.1 b).1 - 1) hR (by omega) (by omega)
          have hfc := (hK.1.1 ((h.1 b).1 - 1) _ (x_cl _ (by omega))).2.1
          exact x_back ht hu hm1 hm2 hL (W.runV (C := (xMn y).cls) (As := (st.take (xnargs y)).reverse) ⟨hx, hb, hml, hown, hts⟩ hMet ⟨x_callB hts hM hF1 hF2 (x_mR hy), hts _ (x_in hin), hts _ (x_se hse)⟩
            ⟨x_blind, ⟨cell, q1, by rw [q3]; rfl, by rw [hcls, q2]; exact hfc⟩, fun U hU hW => ⟨rfl, hbase, by rw [hU]; exact hR, hK.warm hW⟩⟩ rfl (by rw [List.length_reverse, List.length_take]; omega) hl.1 (x_take hdrop) (lv_room hcat) hd ⟨by omega, by omega⟩) (kk rfl)
        next => cases he
      next => cases he
    next => cases he
  next => cases he
theorem x_stat (hx : p.tables.exec = Jvm.exec) (hb : c.code = cc) (hml : c.maxLocals = nL) {o : Nat} (hown : s.vm.findClass (xOwn o) = some m.cls) (hts : ∀ w ∈ xALL, w.before args s = true) (hK : xKn Y D dA s) (hR : xRp G0 D dA base h H) (hbase : base ≤ h.2.1)
    (hF1 : d + 1 ≤ R.frames) (hF2 : 60 * (d + 1) ≤ R.locals) (hcF : ∀ y as h r h', cF y as h = some (r, h') → xMet l G0 Y D dA base d y as h r h') (ht : t0 ≤ h.2.1) (hu : u0 ≤ h.2.2) (hL : ∀ q ∈ locs, base ≤ q.base)
    {idx y : Nat} (hy : xmR o idx = some y) (hd : decode cc pc = .ok (.invokestatic idx, 3)) {lv lv' : xL} {st st' : List Value} {pc' : Nat} (hl : lv_has ls nL lv) (he : xstat cF y pc lv st h = some (pc', lv', st', h')) (hc1 : h'.2.1 - t0 ≤ R.cells) (hc2 : h'.2.2 - u0 ≤ R.slots)
    (kk : lv' = lv → ∀ (H' : Heap) (locs' : List Loc), xRp G0 D dA base h' H' → (∀ q ∈ locs', base ≤ q.base) → W p l e R s m args below meth c H' locs' (h'.2.1 - t0) (h'.2.2 - u0) Q (F0 m pc' ls st')) : W p l e R s m args below meth c H locs (h.2.1 - t0) (h.2.2 - u0) Q (F0 m pc ls st) := by
  unfold xstat at he
  split at he
  next hcnd =>
    unfold xcall1 at he
    split at he
    next hcat =>
      split at he
      next r h2 hcf =>
        cases he
        obtain ⟨bytes, ml, ret, n, hM, hm1, hm2, hMet⟩ := hcF _ _ _ _ _ hcf
        have hna : xnargs y = n := by unfold xnargs; rw [hM]
        exact x_back ht hu hm1 hm2 hL (W.runS (As := (st.take (xnargs y)).reverse) ⟨hx, hb, hml, hown, hts⟩ hMet ⟨x_callB hts hM hF1 hF2 (x_mR hy), hts _ (x_st hcnd.2)⟩
          ⟨x_blind, fun U hU hW => ⟨rfl, hbase, by rw [hU]; exact hR, hK.warm hW⟩⟩ rfl (by rw [List.length_reverse, List.length_take]; omega) hl.1 (x_take rfl) (lv_room hcat) hd ⟨by omega, by omega⟩) (kk rfl)
      next => cases he
    next => cases he
  next => cases he
theorem x_inis (hx : p.tables.exec = Jvm.exec) (hb : c.code = cc) (hml : c.maxLocals = nL) {o : Nat} (hown : s.vm.findClass (xOwn o) = some m.cls) (hts : ∀ w ∈ xALL, w.before args s = true) (hK : xKn Y D dA s) (hR : xRp G0 D dA base h H) (hbase : base ≤ h.2.1)
    (hF1 : d + 1 ≤ R.frames) (hF2 : 60 * (d + 1) ≤ R.locals) (hcF : ∀ y as h r h', cF y as h = some (r, h') → xMet l G0 Y D dA base d y as h r h') (ht : t0 ≤ h.2.1) (hu : u0 ≤ h.2.2) (hL : ∀ q ∈ locs, base ≤ q.base)
    {idx y : Nat} (hy : xmR o idx = some y ∨ xnR o idx = some y) (hd : decode cc pc = .ok (.invokespecial idx, 3)) {lv lv' : xL} {st st' : List Value} {pc' : Nat} (hl : lv_has ls nL lv) (he : xini cF y pc lv st h = some (pc', lv', st', h')) (hc1 : h'.2.1 - t0 ≤ R.cells) (hc2 : h'.2.2 - u0 ≤ R.slots)
    (kk : lv' = lv → ∀ (H' : Heap) (locs' : List Loc), xRp G0 D dA base h' H' → (∀ q ∈ locs', base ≤ q.base) → W p l e R s m args below meth c H' locs' (h'.2.1 - t0) (h'.2.2 - u0) Q (F0 m pc' ls st')) : W p l e R s m args below meth c H locs (h.2.1 - t0) (h.2.2 - u0) Q (F0 m pc ls st) := by
  unfold xini at he
  split at he
  next b rest hdrop =>
    split at he
    next hcnd =>
      obtain ⟨hn, hin, hnm, hnr⟩ := hcnd
      unfold xcall1 at he
      split at he
      next hcat =>
        split at he
        next r h2 hcf =>
          cases he
          obtain ⟨bytes, ml, ret, n, hM, hm1, hm2, hMet⟩ := hcF _ _ _ _ _ hcf
          have hna : xnargs y = n := by unfold xnargs; rw [hM]
          cases x_noret hnr hM
          rcases hy with hy | hy
          · exact x_back ht hu hm1 hm2 hL (W.runI (b := b) (As := (st.take (xnargs y)).reverse) ⟨hx, hb, hml, hown, hts⟩ hMet ⟨x_callB hts hM hF1 hF2 (x_mR hy), hnm, hts _ (x_in hin)⟩
              ⟨x_blind, fun U hU hW => ⟨rfl, hbase, by rw [hU]; exact hR, hK.warm hW⟩⟩ rfl (by rw [List.length_reverse, List.length_take]; omega) hl.1 (x_take hdrop) (lv_room hcat) hd ⟨by omega, by omega⟩) (kk rfl)
          · exact x_back ht hu hm1 hm2 hL (va_runIN (b := b) (As := (st.take (xnargs y)).reverse) ⟨hx, hb, hml, hown, hts⟩ hMet ⟨x_callN hts hK hM hF1 hF2 hy, hnm, hts _ (x_in hin)⟩
              ⟨x_blind, fun U hU hW => ⟨rfl, hbase, by rw [hU]; exact hR, hK.warm hW⟩⟩ rfl (by rw [List.length_reverse, List.length_take]; omega) hl.1 (x_take hdrop) (lv_room hcat) hd ⟨by omega, by omega⟩).run (kk rfl)
        next => cases he
      next => cases he
    next => cases he
  next => cases he
end XS6
