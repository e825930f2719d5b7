section XS7
variable {p : Program} {l : Launch} {e : Env} {R : Room} {s : State} {m : MethodId} {args : Array Value} {below : List Frame} {meth : Method} {c : Code} {H : Heap} {locs : List Loc} {Q : State → Prop}
variable {cc : ByteArray} {pc nL : Nat} {ls : Array Slot} {D : va_G} {dA : Nat → ClassId} {base d t0 u0 : Nat} {h h' : xH} {cF : Nat → List Value → xH → Option (Option Value × xH)}
theorem x_putf (hx : p.tables.exec = Jvm.exec) (hb : c.code = cc) {o : Nat} (hown : s.vm.findClass (xOwn o) = some m.cls) (hts : ∀ w ∈ xALL, w.before args s = true) (hK : xKn D dA s) (hR : xRp D dA base h H) {ini : Bool} (hini : ini = true → meth.name = "<init>") (hL : ∀ q ∈ locs, base ≤ q.base)
    {idx ci k a : Nat} {v : Value} {r : List Value} {ty : FieldType} (hf : xfR o idx = some (ci, k)) (ht : (h.1 a).1 = ci + 1) (hfin : ((xCl ci).2.1 k).2.2.2 = false ∨ (ini = true ∧ ((xCl ci).2.1 k).1 = xOwn o)) (hty : xfty ci k = some ty) (hv : xfit ty v = true) (hd : decode cc pc = .ok (.putfield idx, 3))
    (kk : ∀ (H' : Heap) (locs' : List Loc), xRp D dA base (xset h.1 a ((h.1 a).1, (h.1 a).2.1, updV (h.1 a).2.2 k v), h.2) H' → (∀ q ∈ locs', base ≤ q.base) → W p l e R s m args below meth c H' locs' (h.2.1 - t0) (h.2.2 - u0) Q (F0 m (pc + 3) ls r)) : W p l e R s m args below meth c H locs (h.2.1 - t0) (h.2.2 - u0) Q (F0 m pc ls (v :: .ref a :: r)) := by
  obtain ⟨hw, h3, h17, hk⟩ := x_fR hf
  have hap := x_ap hts hK h3 h17
  obtain ⟨hS, hfc, kC, hkC, hkind⟩ := hK.1.1 ci _ (x_cl ci h17)
  obtain ⟨cf, kf, fi, f, hi, hsl⟩ := hS k hk
  obtain ⟨ba, cell, q1, q2, q3, q4⟩ := x_obj hR ht h17
  have hst := (u_facts hfc hkC (u_lays hts (x_lay ci h3 h17) hk) hi).1
  obtain ⟨hn, hfit⟩ := x_fit hv
  have hlay := hts _ (x_lay ci h3 h17 _ (u_in_lay hk))
  unfold u_lay at hlay
  have fin : ∀ H' : Heap, H'[a]? = some (cell.setSlot f.slot v) → H'.size = H.size → (∀ q, q ≠ a → H'[q]? = H[q]?) → xRp D dA base (xset h.1 a ((h.1 a).1, (h.1 a).2.1, updV (h.1 a).2.2 k v), h.2) H' := by
    intro H' e1 e2 e3
    rw [hsl] at e1
    refine hR.set e2 e3 (Or.inl ⟨by show 1 ≤ (h.1 a).1; omega, by show (h.1 a).1 ≤ 17; omega, ba, ?_⟩)
    show t_OB a (D.1 ((h.1 a).1 - 1)) (xCl ((h.1 a).1 - 1)).2.2 (D.2 ((h.1 a).1 - 1)) H' (updV (h.1 a).2.2 k v)
    rw [show (h.1 a).1 - 1 = ci by omega]
    exact ⟨_, e1, q2, q3, t_set q4 hap hk v⟩
  rcases hfin with hfin | ⟨hin, hdecl⟩
  · rw [if_neg (by rw [hfin]; decide)] at hlay
    have h6 := u_store hfc hkC hkind hlay hi hty hn hfit
    exact W.putK hx hb (f := f) ⟨hown, hts _ hw, ⟨_, _, _, hi⟩, hst⟩ (by rw [q2]; exact h6) q1 q3 (by rw [hsl]; exact k2_hasslot (q4 k hk)) rfl rfl hd fun H' e1 e2 e3 => kk H' _ (fin H' e1 e2 e3) (x_locs hL ba)
  · by_cases hfb : ((xCl ci).2.1 k).2.2.2 = true
    · rw [if_pos hfb] at hlay
      have hcf : m.cls = cf := by
        obtain ⟨_, _, c', _, _, _, -, -, hf', -, -, -, hown2, -⟩ := Cond.laysFinal_spec hlay
        have e1 : c' = cf := by have := hi.symm.trans hf'; simp at this; exact this.1.symm
        rw [hdecl] at hown2
        rw [← e1]; exact Option.some.inj (hown.symm.trans hown2)
      have h6 := u_fits hfc hkC hkind (Or.inr hlay) hi hty hn hfit
      exact W.putFinK hx hb hown (hts _ hw) hi hst hcf (hini hin) (by rw [q2]; exact h6) q1 q3 (by rw [hsl]; exact k2_hasslot (q4 k hk)) rfl rfl hd fun H' e1 e2 e3 => kk H' _ (fin H' e1 e2 e3) (x_locs hL ba)
    · rw [if_neg hfb] at hlay
      have h6 := u_store hfc hkC hkind hlay hi hty hn hfit
      exact W.putK hx hb (f := f) ⟨hown, hts _ hw, ⟨_, _, _, hi⟩, hst⟩ (by rw [q2]; exact h6) q1 q3 (by rw [hsl]; exact k2_hasslot (q4 k hk)) rfl rfl hd fun H' e1 e2 e3 => kk H' _ (fin H' e1 e2 e3) (x_locs hL ba)
theorem x_newa (hx : p.tables.exec = Jvm.exec) (hb : c.code = cc) (hts : ∀ w ∈ xALL, w.before args s = true) (hK : xKn D dA s) (hR : xRp D dA base h H) (hbase : base ≤ h.2.1) (ht : t0 ≤ h.2.1) (hu : u0 ≤ h.2.2)
    {t : ArrayType} {j : Nat} {n : Int32} {r : List Value} (hj : j ≤ 3) (hty : (xtys dA)[j]? = some (dA j, newarray.typeOf t)) (hyy : xTy.getD j .int = newarray.typeOf t) (hw : Jvm.Cond.arrayClass (newarray.typeOf t) ∈ xALL) (hbb : componentBytes (newarray.typeOf t) ≤ 8) (hdf : fits (newarray.typeOf t) (defaultValue (newarray.typeOf t)) = true)
    (hra : ∀ cA : ClassId, s.vm.findClass ("[" ++ (newarray.typeOf t).toString) = some cA → cA = dA j)
    (hn : ¬ n < 0) (hn2 : n.toNatClampNeg ≤ 1000000) (hd : decode cc pc = .ok (.newarray t, 2)) (hc1 : h.2.1 + 1 - t0 ≤ R.cells) (hc2 : h.2.2 + n.toNatClampNeg - u0 ≤ R.slots)
    (kk : ∀ (H' : Heap), xRp D dA base (xset h.1 h.2.1 (20 + j, n.toNatClampNeg, fun _ => defaultValue (newarray.typeOf t)), h.2.1 + 1, h.2.2 + n.toNatClampNeg) H' → W p l e R s m args below meth c H' locs (h.2.1 + 1 - t0) (h.2.2 + n.toNatClampNeg - u0) Q (F0 m (pc + 2) ls (.ref h.2.1 :: r))) : W p l e R s m args below meth c H locs (h.2.1 - t0) (h.2.2 - u0) Q (F0 m pc ls (.int n :: r)) := by
  refine va_newaK hx hb (hts _ hw) rfl hd rfl hn rfl ?_ (by omega) (by omega) hR.1 fun H1 cA e1 z1 o1 hAr hNm => ?_
  · have : n.toNatClampNeg * componentBytes (newarray.typeOf t) ≤ 1000000 * 8 := Nat.mul_le_mul hn2 hbb
    omega
  · rw [show h.2.1 - t0 + 1 = h.2.1 + 1 - t0 by omega, show h.2.2 - u0 + n.toNatClampNeg = h.2.2 + n.toNatClampNeg - u0 by omega]
    refine kk H1 (hR.push z1 o1 (Or.inr (Or.inl ⟨by show 20 ≤ 20 + j; omega, by show 20 + j ≤ 27; omega, hbase, ?_, ?_⟩)))
    · show H1[h.2.1]? = some (arrV (dA (20 + j - 20)) _ _)
      rw [show 20 + j - 20 = j by omega, ← hra cA hNm]
      exact e1
    · show ∀ i, i < n.toNatClampNeg → fits (xTy.getD (20 + j - 20) .int) _ = true
      rw [show 20 + j - 20 = j by omega, hyy]
      intro i hi
      exact hdf
theorem x_new (hx : p.tables.exec = Jvm.exec) (hb : c.code = cc) {o : Nat} (hown : s.vm.findClass (xOwn o) = some m.cls) (hts : ∀ w ∈ xALL, w.before args s = true) (hK : xKn D dA s) (hR : xRp D dA base h H) (hbase : base ≤ h.2.1) (ht : t0 ≤ h.2.1) (hu : u0 ≤ h.2.2)
    {idx ci : Nat} {st : List Value} (hk : xkR o idx = some ci) (hit : xIt.contains ci = true) (hd : decode cc pc = .ok (.new idx, 3)) (hc1 : h.2.1 + 1 - t0 ≤ R.cells) (hc2 : h.2.2 + (xCl ci).2.2 - u0 ≤ R.slots)
    (kk : ∀ (H' : Heap), xRp D dA base (xset h.1 h.2.1 (ci + 1, (xCl ci).2.2, fun k => match xfty ci k with
        | some ty => defaultValue ty
        | none => .null), h.2.1 + 1, h.2.2 + (xCl ci).2.2) H' → W p l e R s m args below meth c H' locs (h.2.1 + 1 - t0) (h.2.2 + (xCl ci).2.2 - u0) Q (F0 m (pc + 3) ls (.ref h.2.1 :: st))) : W p l e R s m args below meth c H locs (h.2.1 - t0) (h.2.2 - u0) Q (F0 m pc ls st) := by
  obtain ⟨h3, h17⟩ := x_kT_ok _ (x_look hk)
  have hKn := hK.1.1 ci _ (x_cl ci h17)
  obtain ⟨hty, -⟩ := x_nm ci h3 h17
  refine W.newcK hx hb hown (hts _ (x_kR hk)) (hts _ (x_it hit)) (hts _ (x_ini (x_ini_cl ci h17))) rfl hd (by omega) (by omega) hKn.2.1 hR.1 fun H1 kC hkC e1 z1 o1 => ?_
  rw [show h.2.1 - t0 + 1 = h.2.1 + 1 - t0 by omega, show h.2.2 - u0 + (xCl ci).2.2 = h.2.2 + (xCl ci).2.2 - u0 by omega]
  refine kk H1 (hR.push z1 o1 (Or.inl ⟨by show 1 ≤ ci + 1; omega, by show ci + 1 ≤ 17; omega, hbase, ?_⟩))
  show t_OB h.2.1 (D.1 (ci + 1 - 1)) (xCl (ci + 1 - 1)).2.2 (D.2 (ci + 1 - 1)) H1 _
  rw [show ci + 1 - 1 = ci by omega]
  refine (u_born (fun k => (xfty ci k).getD .int) hts (x_lay ci h3 h17) hKn hkC e1 (fun k hk => ?_)).to (fun k hk => ?_)
  · obtain ⟨ty, h⟩ := hty k hk
    show xfty ci k = some ((xfty ci k).getD .int)
    rw [h]; rfl
  · obtain ⟨ty, h⟩ := hty k hk
    have e1 : defaultValue ((xfty ci k).getD .int) = defaultValue ty := by rw [h]; rfl
    exact e1.trans (x_default ci k ty h).symm
end XS7
