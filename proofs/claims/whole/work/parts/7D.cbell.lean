/-! World's setBell and drawAlarm while the objects are being laid -/
section CB
variable {pF : Nat → List Value → xH → Option (Option Value × xH)} {d : Nat} {k : xK} {o nL : Nat} {ini : Bool} {ret : Option FieldType} {rr : Option Value} {hh : xH} {pc np : Nat} {lv : xL} {st : List Value} {G : Nat → xC} {a : Nat} {l : List xC} {H : Nat × Nat}
theorem bE_lald {i : Nat} {j : Int32} {x : xC} {v : Value} (hl : xAt k pc .laload np) (hx : l[i]? = some x) (ht : x.1 = 21) (hj : ¬ (j < 0 ∨ x.2.1 ≤ j.toNatClampNeg)) (hv : x.2.2 j.toNatClampNeg = v) (kk : xR pF d k o nL ini ret rr hh (np, lv, v :: st, (hbl G a l, H))) :
    xR pF d k o nL ini ret rr hh (pc, lv, .int j :: .ref (a + i) :: st, (hbl G a l, H)) := by
  have e : hbl G a l (a + i) = x := hbl_in hx
  refine xE_p hl rfl (fun len h1 h2 => ?_) kk
  obtain rfl : len = 1 := by simp only [xlen] at h2; omega
  subst h1
  subst hv
  simp [xpure, xald, e, ht, hj]
/-- the block behind setBell -/
def bbell (l : List xC) (w j : Nat) (tm mk : Int32) (W : xC) (T O : Nat → Value) : List xC := ((l.set (w + 1) (20, 23, updV T j (.int tm))).set (w + 2) (20, 23, updV O j (.int mk))).set w (W.1, W.2.1, updV W.2.2 1 (.int (mk + 1)))
theorem b_setBell (hp0 : xNPc pF) {w j : Nat} {W : xC} {T O : Nat → Value} {mk tm : Int32} (hW : l[w]? = some W) (hW1 : W.1 = 15) (ht : W.2.2 10 = .ref (a + (w + 1))) (ho : W.2.2 11 = .ref (a + (w + 2))) (hm : W.2.2 1 = .int mk) (hT : l[w + 1]? = some (20, 23, T)) (hO : l[w + 2]? = some (20, 23, O)) (hj : j < 23) :
    xCo pF (d + 1) 200 [.ref (a + w), .int (Int32.ofNat j), .int tm] (hbl G a l, H) none (hbl G a (bbell l w j tm mk W T O), H) := by
  obtain ⟨n1, n2⟩ := y_ofn (n := j) (by omega)
  have hjj : ¬ (Int32.ofNat j < 0 ∨ 23 ≤ (Int32.ofNat j).toNatClampNeg) := fun z => z.elim n2 (fun z => by omega)
  refine xCo_R kk_200 mo_200 ni_200 xm_200 (Nat.le_of_ble_eq_true rfl) (hp0 200 (by decide) _ _) ?_
  refine eE_aload_n lk200_0 (x := a + w) rfl ?_
  refine bE_get (i := w) lk200_1 rf_14_9 hW hW1 ht ?_
  refine eE_iload_n lk200_4 (x := Int32.ofNat j) rfl ?_
  refine eE_iload_n lk200_5 (x := tm) rfl ?_
  refine bE_iast (i := w + 1) lk200_6 hT rfl hjj ?_
  rw [n1]
  have e1 : (l.set (w + 1) (20, 23, updV T j (.int tm)))[w]? = some W := by rw [List.getElem?_set_ne (by omega)]; exact hW
  have e2 : (l.set (w + 1) (20, 23, updV T j (.int tm)))[w + 2]? = some (20, 23, O) := by rw [List.getElem?_set_ne (by omega)]; exact hO
  refine eE_aload_n lk200_7 (x := a + w) rfl ?_
  refine bE_get (i := w) lk200_8 rf_14_15 e1 hW1 ho ?_
  refine eE_iload_n lk200_11 (x := Int32.ofNat j) rfl ?_
  refine eE_aload_n lk200_12 (x := a + w) rfl ?_
  refine bE_get (i := w) lk200_13 rf_14_118 e1 hW1 hm ?_
  refine bE_iast (i := w + 2) lk200_16 e2 rfl hjj ?_
  rw [n1]
  have e3 : ((l.set (w + 1) (20, 23, updV T j (.int tm))).set (w + 2) (20, 23, updV O j (.int mk)))[w]? = some W := by rw [List.getElem?_set_ne (by omega)]; exact e1
  refine eE_aload_n lk200_17 (x := a + w) rfl ?_
  refine eE_dup lk200_18 rfl ?_
  refine bE_get (i := w) lk200_19 rf_14_118 e3 hW1 hm ?_
  refine eE_iconst (v := 1) lk200_22 (by decide) ?_
  refine eE_iadd lk200_23 ?_
  refine bE_put (i := w) (ty := .int) lk200_24 rf_14_118 e3 hW1 (by decide +kernel) (Or.inl (by decide +kernel)) (by decide +kernel) rfl ?_
  exact eE_end lk200_27 rfl rfl rfl
end CB
