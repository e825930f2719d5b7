section XS7
variable {p : Program} {l : Launch} {e : Env} {R : Room} {s : State} {m : MethodId} {args : Array Value} {below : List Frame} {meth : Method} {c : Code} {H : Heap} {locs : List Loc} {Q : State → Prop}
variable {cc : ByteArray} {pc nL : Nat} {ls : Array Slot} {G0 : Heap} {Y : State → Prop} {D : va_G} {dA : Nat → ClassId} {base d t0 u0 : Nat} {h h' : xH} {cF : Nat → List Value → xH → Option (Option Value × xH)}
theorem x_putf (hx : p.tables.exec = Jvm.exec) (hb : c.code = cc) {o : Nat} (hown : s.vm.findClass (xOwn o) = some m.cls) (hts : ∀ w ∈ xALL, w.before args s = true) (hK : xKn Y D dA s) (hR : xRp G0 D dA base h H) {ini : Bool} (hini : ini = true → meth.name = "<init>") (hL : ∀ q ∈ locs, base ≤ q.base)
    {idx ci k a : Nat} {v : Value} {r : List Value} {ty : FieldType} (hf : xfR o idx = some (ci, k)) (ht : (h.1 a).1 = ci + 1) (hfin : ((xCl ci).2.1 k).2.2.2 = false ∨ (ini = true ∧ ((xCl ci).2.1 k).1 = xOwn o)) (hty : xfty ci k = some ty) (hv : xfit ty v = true) (hd : decode cc pc = .ok (.putfield idx, 3))
    (kk : ∀ (H' : Heap) (locs' : List Loc), xRp G0 D dA base (xset h.1 a ((h.1 a).1, (h.1 a).2.1, updV (h.1 a).2.2 k v), h.2) H' → (∀ q ∈ locs', base ≤ q.base) → W p l e R s m args below meth c H' locs' (h.2.1 - t0) (h.2.2 - u0) Q (F0 m (pc + 3) ls r)) : W p l e R s m args below meth c H locs (h.2.1 - t0) (h.2.2 - u0) Q (F0 m pc ls (v :: .ref a :: r)) := by
  obtain ⟨hw, h3, h17, hk⟩ := x_fR hf
  have hap := x_ap hts hK h3 h17
  obtain ⟨hS, hfc, kC, hkC, hkind⟩ := hK.1.1 ci _ (x_cl ci h17)
  obtain ⟨cf, kf, fi, f, hi, hsl⟩ := hS k hk
  obtain ⟨ba, cell, q1, q2, q3, q4⟩ := x_obj hR ht h17
  have hst := (u_facts hfc hkC (u_lays hts (x_lay ci h3 h17) hk) hi).1
  obtain ⟨hn, hfit⟩ := x_fit hv
  have hlay := hts _ (x_lay ci h3 h17 _ (u_in_lay hk))
  unfold u_lay at hlay
  have fin : ∀ H' : Heap, H'[a]? = some (cell.setSlot f.slot v) → H'.size = H.size → (∀ q, q ≠ a → H'[q]? = H[q]?) → xRp G0 D dA base (xset h.1 a ((h.1 a).1, (h.1 a).2.1, updV (h.1 a).2.2 k v), h.2) H' := by
    intro H' e1 e2 e3
    rw [hsl] at e1
    refine hR.set ba e2 e3 (Or.inl ⟨by show 1 ≤ (h.1 a).1; omega, by show (h.1 a).1 ≤ 17; omega, ba, ?_⟩)
    show t_OB a (D.1 ((h.1 a).1 - 1)) (xCl ((h.1 a).1 - 1)).2.2 (D.2 ((h.1 a).1 - 1)) H' (updV (h.1 a).2.2 k v)
    rw [show (h.1 a).1 - 1 = ci by omega]
    exact ⟨_, e1, q2, q3, t_set q4 hap hk v⟩
  rcases hfin with hfin | ⟨hin, hdecl⟩
  · rw [if_neg (by rw [hfin]; decide)] at hlay
    have h6 := u_store hfc hkC hkind hlay hi hty hn hfit
    exact W.putK hx hb (f := f) ⟨hown, hts _ hw, ⟨_, _, _, hi⟩, hst⟩ (by rw [q2]; exact h6) q1 q3 (by rw [hsl]; exact k2_hasslot (q4 k hk)) rfl rfl hd fun H' e1 e2 e3 => kk H' _ (fin H' e1 e2 e3) (x_locs hL ba)
  · by_cases hfb : ((xCl ci).2.1 k).2.2.2 = true
    · rw [if_pos hfb] at hlay
      have hcf : m.cls = cf := by
        obtain ⟨_, _, c', _, _, _, -, -, hf', -, -, -, hown2, -⟩ := Cond.laysFinal_spec hlay
        have e1 : c' = cf := by have := hi.symm.trans hf'; simp at this; exact this.1.symm
        rw [hdecl] at hown2
        rw [← e1]; exact Option.some.inj (hown.symm.trans hown2)
      have h6 := u_fits hfc hkC hkind (Or.inr hlay) hi hty hn hfit
      exact W.putFinK hx hb hown (hts _ hw) hi hst hcf (hini hin) (by rw [q2]; exact h6) q1 q3 (by rw [hsl]; exact k2_hasslot (q4 k hk)) rfl rfl hd fun H' e1 e2 e3 => kk H' _ (fin H' e1 e2 e3) (x_locs hL ba)
    · rw [if_neg hfb] at hlay
      have h6 := u_store hfc hkC hkind hlay hi hty hn hfit
      exact W.putK hx hb (f := f) ⟨hown, hts _ hw, ⟨_, _, _, hi⟩, hst⟩ (by rw [q2]; exact h6) q1 q3 (by rw [hsl]; exact k2_hasslot (q4 k hk)) rfl rfl hd fun H' e1 e2 e3 => kk H' _ (fin H' e1 e2 e3) (x_locs hL ba)
theorem x_newa (hx : p.tables.exec = Jvm.exec) (hb : c.code = cc) (hts : ∀ w ∈ xALL, w.before args s = true) (hK : xKn Y D dA s) (hR : xRp G0 D dA base h H) (hbase : base ≤ h.2.1) (ht : t0 ≤ h.2.1) (hu : u0 ≤ h.2.2)
    {t : ArrayType} {j : Nat} {n : Int32} {r : List Value} (hj : j ≤ 3) (hty : (xtys dA)[j]? = some (dA j, newarray.typeOf t)) (hyy : xTy.getD j .int = newarray.typeOf t) (hw : Jvm.Cond.arrayClass (newarray.typeOf t) ∈ xALL) (hbb : componentBytes (newarray.typeOf t) ≤ 8) (hdf : fits (newarray.typeOf t) (defaultValue (newarray.typeOf t)) = true)
    (hra : ∀ cA : ClassId, s.vm.findClass ("[" ++ (newarray.typeOf t).toString) = some cA → cA = dA j)
    (hn : ¬ n < 0) (hn2 : n.toNatClampNeg ≤ 1000000) (hd : decode cc pc = .ok (.newarray t, 2)) (hc1 : h.2.1 + 1 - t0 ≤ R.cells) (hc2 : h.2.2 + n.toNatClampNeg - u0 ≤ R.slots)
    (kk : ∀ (H' : Heap), xRp G0 D dA base (xset h.1 h.2.1 (20 + j, n.toNatClampNeg, fun _ => defaultValue (newarray.typeOf t)), h.2.1 + 1, h.2.2 + n.toNatClampNeg) H' → W p l e R s m args below meth c H' locs (h.2.1 + 1 - t0) (h.2.2 + n.toNatClampNeg - u0) Q (F0 m (pc + 2) ls (.ref h.2.1 :: r))) : W p l e R s m args below meth c H locs (h.2.1 - t0) (h.2.2 - u0) Q (F0 m pc ls (.int n :: r)) := by
  refine va_newaK hx hb (hts _ hw) rfl hd rfl hn rfl ?_ (by omega) (by omega) hR.1 fun H1 cA e1 z1 o1 hAr hNm => ?_
  · have : n.toNatClampNeg * componentBytes (newarray.typeOf t) ≤ 1000000 * 8 := Nat.mul_le_mul hn2 hbb
    omega
  · rw [show h.2.1 - t0 + 1 = h.2.1 + 1 - t0 by omega, show h.2.2 - u0 + n.toNatClampNeg = h.2.2 + n.toNatClampNeg - u0 by omega]
    refine kk H1 (hR.push hbase z1 o1 (Or.inr (Or.inl ⟨by show 20 ≤ 20 + j; omega, by show 20 + j ≤ 27; omega, hbase, ?_, ?_⟩)))
    · show H1[h.2.1]? = some (arrV (dA (20 + j - 20)) _ _)
      rw [show 20 + j - 20 = j by omega, ← hra cA hNm]
      exact e1
    · show ∀ i, i < n.toNatClampNeg → fits (xTy.getD (20 + j - 20) .int) _ = true
      rw [show 20 + j - 20 = j by omega, hyy]
      intro i hi
      exact hdf
theorem x_new (hx : p.tables.exec = Jvm.exec) (hb : c.code = cc) {o : Nat} (hown : s.vm.findClass (xOwn o) = some m.cls) (hts : ∀ w ∈ xALL, w.before args s = true) (hK : xKn Y D dA s) (hR : xRp G0 D dA base h H) (hbase : base ≤ h.2.1) (ht : t0 ≤ h.2.1) (hu : u0 ≤ h.2.2)
    {idx ci : Nat} {st : List Value} (hk : xkR o idx = some ci) (hit : xIt.contains ci = true) (hd : decode cc pc = .ok (.new idx, 3)) (hc1 : h.2.1 + 1 - t0 ≤ R.cells) (hc2 : h.2.2 + (xCl ci).2.2 - u0 ≤ R.slots)
    (kk : ∀ (H' : Heap), xRp G0 D dA base (xset h.1 h.2.1 (ci + 1, (xCl ci).2.2, fun k => match xfty ci k with
        | some ty => defaultValue ty
        | none => .null), h.2.1 + 1, h.2.2 + (xCl ci).2.2) H' → W p l e R s m args below meth c H' locs (h.2.1 + 1 - t0) (h.2.2 + (xCl ci).2.2 - u0) Q (F0 m (pc + 3) ls (.ref h.2.1 :: st))) : W p l e R s m args below meth c H locs (h.2.1 - t0) (h.2.2 - u0) Q (F0 m pc ls st) := by
  obtain ⟨h3, h17⟩ := x_kT_ok _ (x_look hk)
  have hKn := hK.1.1 ci _ (x_cl ci h17)
  obtain ⟨hty, -⟩ := x_nm ci h3 h17
  refine W.newcK hx hb hown (hts _ (x_kR hk)) (hts _ (x_it hit)) (hts _ (x_ini (x_ini_cl ci h17))) rfl hd (by omega) (by omega) hKn.2.1 hR.1 fun H1 kC hkC e1 z1 o1 => ?_
  rw [show h.2.1 - t0 + 1 = h.2.1 + 1 - t0 by omega, show h.2.2 - u0 + (xCl ci).2.2 = h.2.2 + (xCl ci).2.2 - u0 by omega]
  refine kk H1 (hR.push hbase z1 o1 (Or.inl ⟨by show 1 ≤ ci + 1; omega, by show ci + 1 ≤ 17; omega, hbase, ?_⟩))
  show t_OB h.2.1 (D.1 (ci + 1 - 1)) (xCl (ci + 1 - 1)).2.2 (D.2 (ci + 1 - 1)) H1 _
  rw [show ci + 1 - 1 = ci by omega]
  refine (u_born (fun k => (xfty ci k).getD .int) hts (x_lay ci h3 h17) hKn hkC e1 (fun k hk => ?_)).to (fun k hk => ?_)
  · obtain ⟨ty, h⟩ := hty k hk
    show xfty ci k = some ((xfty ci k).getD .int)
    rw [h]; rfl
  · obtain ⟨ty, h⟩ := hty k hk
    have e1 : defaultValue ((xfty ci k).getD .int) = defaultValue ty := by rw [h]; rfl
    exact e1.trans (x_default ci k ty h).symm
theorem xw_mod : Jvm.Cond.fieldLink "java/util/ArrayList" 63 "java/util/ArrayList" "modCount" "I" ∈ xALL ∧ Jvm.Cond.fieldLink "java/util/AbstractList" 7 "java/util/AbstractList" "modCount" "I" ∈ xALL ∧ Jvm.Cond.sameField "java/util/ArrayList" "java/util/AbstractList" "modCount" "I" ∈ xALL := by
  have hz : ∀ w ∈ ([Jvm.Cond.fieldLink "java/util/AbstractList" 7 "java/util/AbstractList" "modCount" "I", Jvm.Cond.fieldLink "java/util/ArrayList" 63 "java/util/ArrayList" "modCount" "I", Jvm.Cond.sameField "java/util/ArrayList" "java/util/AbstractList" "modCount" "I"] : List Jvm.Cond), w ∈ lw_tbl := fun w h => xin_t1 w (x_sub (big := tables_1_1) [77, 78, 79] rfl w h)
  exact ⟨xALL_g (hz _ (by simp)) rfl, xALL_g (hz _ (by simp)) rfl, xALL_g (hz _ (by simp)) rfl⟩
/-- ArrayList's count of changes, which it inherits -/
theorem x_modg (hx : p.tables.exec = Jvm.exec) (hb : c.code = cc) (hown : s.vm.findClass (xOwn 3) = some m.cls) (hts : ∀ w ∈ xALL, w.before args s = true) (hK : xKn Y D dA s) (hR : xRp G0 D dA base h H)
    {a : Nat} {r : List Value} (ht : (h.1 a).1 = 4) (hd : decode cc pc = .ok (.getfield 63, 3))
    (kk : W p l e R s m args below meth c H locs (h.2.1 - t0) (h.2.2 - u0) Q (F0 m (pc + 3) ls ((h.1 a).2.2 0 :: r))) : W p l e R s m args below meth c H locs (h.2.1 - t0) (h.2.2 - u0) Q (F0 m pc ls (.ref a :: r)) := by
  obtain ⟨hS, hfc, kC, hkC, hkind⟩ := hK.1.1 3 _ (x_cl 3 (by omega))
  obtain ⟨cf, kf, fi, f, hi, hsl⟩ := hS 0 (by decide)
  obtain ⟨-, cell, q1, q2, q3, q4⟩ := x_obj (ci := 3) hR ht (by omega)
  refine W.getf hx hb hown (hts _ xw_mod.1) (u_same (hts _ xw_mod.2.2) _ hi) (u_facts hfc hkC (u_lays hts (x_lay 3 (by omega) (by omega)) (by decide)) hi).1 q1 (by rw [q3]; exact fun h => by cases h) ?_ rfl rfl hd kk
  rw [hsl]; exact q4 0 (by decide)
theorem x_modp (hx : p.tables.exec = Jvm.exec) (hb : c.code = cc) {o idx : Nat} (ho : o = 3 ∧ idx = 63 ∨ o = 21 ∧ idx = 7) (hown : s.vm.findClass (xOwn o) = some m.cls) (hts : ∀ w ∈ xALL, w.before args s = true) (hK : xKn Y D dA s) (hR : xRp G0 D dA base h H) (hL : ∀ q ∈ locs, base ≤ q.base)
    {a : Nat} {x : Int32} {r : List Value} (ht : (h.1 a).1 = 4) (hd : decode cc pc = .ok (.putfield idx, 3))
    (kk : ∀ (H' : Heap) (locs' : List Loc), xRp G0 D dA base (xset h.1 a ((h.1 a).1, (h.1 a).2.1, updV (h.1 a).2.2 0 (.int x)), h.2) H' → (∀ q ∈ locs', base ≤ q.base) → W p l e R s m args below meth c H' locs' (h.2.1 - t0) (h.2.2 - u0) Q (F0 m (pc + 3) ls r)) : W p l e R s m args below meth c H locs (h.2.1 - t0) (h.2.2 - u0) Q (F0 m pc ls (.int x :: .ref a :: r)) := by
  have h3 : 3 ≤ 3 := Nat.le_refl 3
  have h17 : 3 < 17 := by omega
  have hk : 0 < (xCl 3).2.2 := by decide
  have hap := x_ap hts hK h3 h17
  obtain ⟨hS, hfc, kC, hkC, hkind⟩ := hK.1.1 3 _ (x_cl 3 h17)
  obtain ⟨cf, kf, fi, f, hi, hsl⟩ := hS 0 hk
  obtain ⟨ba, cell, q1, q2, q3, q4⟩ := x_obj (ci := 3) hR ht h17
  have hst := (u_facts hfc hkC (u_lays hts (x_lay 3 h3 h17) hk) hi).1
  obtain ⟨hn, hfit⟩ := x_fit (ty := .int) (v := .int x) rfl
  have hlay := hts _ (x_lay 3 h3 h17 _ (u_in_lay hk))
  unfold u_lay at hlay
  rw [if_neg (by decide)] at hlay
  have h6 := u_store (ty := .int) hfc hkC hkind hlay hi (by decide +kernel) hn hfit
  have fin : ∀ H' : Heap, H'[a]? = some (cell.setSlot f.slot (.int x)) → H'.size = H.size → (∀ q, q ≠ a → H'[q]? = H[q]?) → xRp G0 D dA base (xset h.1 a ((h.1 a).1, (h.1 a).2.1, updV (h.1 a).2.2 0 (.int x)), h.2) H' := fun H' e1 e2 e3 => by
    rw [hsl] at e1
    refine hR.set ba e2 e3 (Or.inl ⟨by show 1 ≤ (h.1 a).1; omega, by show (h.1 a).1 ≤ 17; omega, ba, ?_⟩)
    show t_OB a (D.1 ((h.1 a).1 - 1)) (xCl ((h.1 a).1 - 1)).2.2 (D.2 ((h.1 a).1 - 1)) H' (updV (h.1 a).2.2 0 (.int x))
    rw [show (h.1 a).1 - 1 = 3 by omega]
    exact ⟨_, e1, q2, q3, t_set q4 hap hk (.int x)⟩
  rcases ho with ⟨rfl, rfl⟩ | ⟨rfl, rfl⟩
  · exact W.putK hx hb (f := f) ⟨hown, hts _ xw_mod.1, ⟨_, _, _, u_same (hts _ xw_mod.2.2) _ hi⟩, hst⟩ (by rw [q2]; exact h6) q1 q3 (by rw [hsl]; exact k2_hasslot (q4 0 hk)) rfl rfl hd fun H' e1 e2 e3 => kk H' _ (fin H' e1 e2 e3) (x_locs hL ba)
  · exact W.putK hx hb (f := f) ⟨hown, hts _ xw_mod.2.1, ⟨_, _, _, hi⟩, hst⟩ (by rw [q2]; exact h6) q1 q3 (by rw [hsl]; exact k2_hasslot (q4 0 hk)) rfl rfl hd fun H' e1 e2 e3 => kk H' _ (fin H' e1 e2 e3) (x_locs hL ba)
theorem x_aastq (hx : p.tables.exec = Jvm.exec) (hb : c.code = cc) (hK : xKn Y D dA s) (hR : xRp G0 D dA base h H) (hL : ∀ q ∈ locs, base ≤ q.base) {j ci a v : Nat} {C : String} {i : Int32} {r : List Value} (hj : j ≤ 7) (hty : (xtys dA)[j]? = some (dA j, .object C)) (hyy : xTy.getD j .int = .object C) (hci : ci < 17) (hv : (h.1 v).1 = ci + 1) (ht : (h.1 a).1 = 20 + j)
    (hasg : ∀ comp : ClassId, s.vm.findClass C = some comp → s.vm.assignable (D.1 ci) comp = true) (hin : ¬ (i < 0 ∨ (h.1 a).2.1 ≤ i.toNatClampNeg)) (hd : decode cc pc = .ok (.aastore, 1))
    (kk : ∀ (H' : Heap) (locs' : List Loc), xRp G0 D dA base (xset h.1 a ((h.1 a).1, (h.1 a).2.1, updV (h.1 a).2.2 i.toNatClampNeg (.ref v)), h.2) H' → (∀ q ∈ locs', base ≤ q.base) → W p l e R s m args below meth c H' locs' (h.2.1 - t0) (h.2.2 - u0) Q (F0 m (pc + 1) ls r)) : W p l e R s m args below meth c H locs (h.2.1 - t0) (h.2.2 - u0) Q (F0 m pc ls (.ref v :: .int i :: .ref a :: r)) := by
  have hl0 : 0 < (h.1 a).2.1 := by omega
  obtain ⟨ba, hc, hf⟩ := x_arrj hR ht hj (Or.inl hl0)
  have ba := ba (Or.inl hl0)
  obtain ⟨-, cellV, g1, g2, g3, -⟩ := x_obj hR hv hci
  have hcls := (hK.1.1 ci _ (x_cl ci hci)).2
  obtain ⟨kA, comp, k1, k2, k3, -⟩ := (hK.1.2 j _ hty).2
  obtain ⟨kE, hkE, -⟩ := Vm.findClass_spec k3
  obtain ⟨kC, hkC, -⟩ := hcls.2
  refine W.aast hx hb hc (fun q h => by cases h) (fun h => by cases h) k1 k2 rfl hkE ⟨fun z => hin (Or.inl z), by show _ < (arrV _ _ _).slots.size; rw [arrV_size]; exact Nat.not_le.mp fun z => hin (Or.inr z)⟩ g1 (fun q h => by rw [g3] at h; cases h) (by rw [g2]; exact hkC) (by rw [g2]; exact hasg _ k3) rfl rfl hd fun H1 e z oq => ?_
  exact kk H1 _ (x_setA hR ht hj hl0 (by rw [hyy]; rfl) e z oq) (x_locs hL ba)
theorem x_aastN (hx : p.tables.exec = Jvm.exec) (hb : c.code = cc) (hK : xKn Y D dA s) (hR : xRp G0 D dA base h H) (hL : ∀ q ∈ locs, base ≤ q.base) {a : Nat} {i : Int32} {r : List Value} (ht : (h.1 a).1 = 20 + 4) (hin : ¬ (i < 0 ∨ (h.1 a).2.1 ≤ i.toNatClampNeg)) (hd : decode cc pc = .ok (.aastore, 1))
    (kk : ∀ (H' : Heap) (locs' : List Loc), xRp G0 D dA base (xset h.1 a ((h.1 a).1, (h.1 a).2.1, updV (h.1 a).2.2 i.toNatClampNeg .null), h.2) H' → (∀ q ∈ locs', base ≤ q.base) → W p l e R s m args below meth c H' locs' (h.2.1 - t0) (h.2.2 - u0) Q (F0 m (pc + 1) ls r)) : W p l e R s m args below meth c H locs (h.2.1 - t0) (h.2.2 - u0) Q (F0 m pc ls (.null :: .int i :: .ref a :: r)) := by
  have hl0 : 0 < (h.1 a).2.1 := by omega
  obtain ⟨ba, hc, hf⟩ := x_arrj hR ht (by omega) (Or.inl hl0)
  have ba := ba (Or.inl hl0)
  refine va_WaastN (C := "java/lang/Object") hx hb hc (x_arr hK rfl _ _) (fun h => by cases h) (by rw [arrV_size]; exact hin) rfl rfl hd fun H1 e z oq => ?_
  exact kk H1 _ (x_setA hR ht (by omega) hl0 rfl e z oq) (x_locs hL ba)
theorem x_anew (hx : p.tables.exec = Jvm.exec) (hb : c.code = cc) {o : Nat} (hown : s.vm.findClass (xOwn o) = some m.cls) (hts : ∀ w ∈ xALL, w.before args s = true) (hK : xKn Y D dA s) (hR : xRp G0 D dA base h H) (hbase : base ≤ h.2.1) (ht : t0 ≤ h.2.1) (hu : u0 ≤ h.2.2)
    {j idx : Nat} {C : String} {n : Int32} {r : List Value} (hj : j ≤ 7) (hty : (xtys dA)[j]? = some (dA j, .object C)) (hyy : xTy.getD j .int = .object C) (hcl : Jvm.Cond.classLink (xOwn o) idx C ∈ xALL) (hao : va_AO C s)
    (hn : ¬ n < 0) (hn2 : n.toNatClampNeg ≤ 1000000) (hd : decode cc pc = .ok (.anewarray idx, 3)) (hc1 : h.2.1 + 1 - t0 ≤ R.cells) (hc2 : h.2.2 + n.toNatClampNeg - u0 ≤ R.slots)
    (kk : ∀ (H' : Heap), xRp G0 D dA base (xset h.1 h.2.1 (20 + j, n.toNatClampNeg, fun _ => .null), h.2.1 + 1, h.2.2 + n.toNatClampNeg) H' → W p l e R s m args below meth c H' locs (h.2.1 + 1 - t0) (h.2.2 + n.toNatClampNeg - u0) Q (F0 m (pc + 3) ls (.ref h.2.1 :: r))) : W p l e R s m args below meth c H locs (h.2.1 - t0) (h.2.2 - u0) Q (F0 m pc ls (.int n :: r)) := by
  refine W.anew hx hb hown (hts _ hcl) (va_AO.use hao) rfl hd rfl hn (by omega) (by omega) (by omega) fun cA kA comp f1 f2 f3 f4 => ?_
  obtain ⟨kA', comp', -, -, -, h4⟩ := (hK.1.2 j _ hty).2
  have hcA : cA = dA j := Option.some.inj (f1.symm.trans h4)
  rw [hcA]
  rw [show h.2.1 - t0 + 1 = h.2.1 + 1 - t0 by omega, show h.2.2 - u0 + n.toNatClampNeg = h.2.2 + n.toNatClampNeg - u0 by omega, hR.1]
  have z1 : (H.push ({ cls := dA j, slots := Array.replicate n.toNatClampNeg .null, vm := .none } : Cell)).size = h.2.1 + 1 := by rw [Array.size_push, hR.1]
  refine kk _ (hR.push hbase z1 (fun q hq => by rw [Array.getElem?_push, if_neg (by rw [hR.1]; omega)]) (Or.inr (Or.inl ⟨by show 20 ≤ 20 + j; omega, by show 20 + j ≤ 27; omega, hbase, ?_, ?_⟩)))
  · show (H.push _)[h.2.1]? = some (arrV (dA (20 + j - 20)) _ _)
    rw [show 20 + j - 20 = j by omega, ← hR.1, Array.getElem?_push_size, ← arrV_new]
  · show ∀ i, i < n.toNatClampNeg → fits (xTy.getD (20 + j - 20) .int) _ = true
    rw [show 20 + j - 20 = j by omega, hyy]
    intro i hi
    rfl
end XS7
