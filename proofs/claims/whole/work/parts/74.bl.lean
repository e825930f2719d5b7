/-! heaps with a block of new cells at their end: what constructors do -/
def zc : xC := (0, 0, fun _ => .null)
def hbl (G : Nat → xC) (a : Nat) (l : List xC) : Nat → xC := fun q => if a ≤ q ∧ q < a + l.length then l.getD (q - a) zc else G q
theorem hbl_in {G : Nat → xC} {a i : Nat} {l : List xC} {x : xC} (h : l[i]? = some x) : hbl G a l (a + i) = x := by
  obtain ⟨hi, he⟩ := List.getElem?_eq_some_iff.mp h
  unfold hbl
  rw [if_pos ⟨by omega, by omega⟩, Nat.add_sub_cancel_left, List.getD_eq_getElem?_getD, h]
  rfl
theorem hbl_out {G : Nat → xC} {a q : Nat} {l : List xC} (h : ¬ (a ≤ q ∧ q < a + l.length)) : hbl G a l q = G q := if_neg h
theorem hbl_app {G : Nat → xC} {a : Nat} {l m : List xC} : hbl (hbl G a l) (a + l.length) m = hbl G a (l ++ m) := by
  funext q
  by_cases h1 : a + l.length ≤ q ∧ q < a + l.length + m.length
  · have e1 : hbl (hbl G a l) (a + l.length) m q = m.getD (q - (a + l.length)) zc := if_pos h1
    have e2 : hbl G a (l ++ m) q = (l ++ m).getD (q - a) zc := if_pos ⟨by omega, by rw [List.length_append]; omega⟩
    rw [e1, e2, List.getD_eq_getElem?_getD, List.getD_eq_getElem?_getD, List.getElem?_append_right (by omega)]
    congr 2
    omega
  · rw [hbl_out h1]
    by_cases h2 : a ≤ q ∧ q < a + l.length
    · have e1 : hbl G a l q = l.getD (q - a) zc := if_pos h2
      have e2 : hbl G a (l ++ m) q = (l ++ m).getD (q - a) zc := if_pos ⟨h2.1, by rw [List.length_append]; omega⟩
      rw [e1, e2, List.getD_eq_getElem?_getD, List.getD_eq_getElem?_getD, List.getElem?_append_left (by omega)]
    · rw [hbl_out h2, hbl_out (by rw [List.length_append]; omega)]
theorem hbl_1 {G : Nat → xC} {b : Nat} {x : xC} : xset G b x = hbl G b [x] := by
  funext q
  show (if q = b then x else G q) = _
  by_cases h : q = b
  · rw [if_pos h, h]
    exact (hbl_in (i := 0) (l := [x]) rfl).symm
  · rw [if_neg h, hbl_out (by show ¬ (b ≤ q ∧ q < b + 1); omega)]
theorem hbl_push {G : Nat → xC} {a N : Nat} {l : List xC} {x : xC} (h : l.length = N) : xset (hbl G a l) (a + N) x = hbl G a (l ++ [x]) := by
  subst h
  rw [hbl_1, hbl_app]
theorem hbl_set {G : Nat → xC} {a i : Nat} {l : List xC} {x : xC} (h : i < l.length) : xset (hbl G a l) (a + i) x = hbl G a (l.set i x) := by
  funext q
  show (if q = a + i then x else hbl G a l q) = _
  by_cases e : q = a + i
  · rw [if_pos e, e]
    refine (hbl_in ?_).symm
    rw [List.getElem?_set_self h]
  · rw [if_neg e]
    by_cases h2 : a ≤ q ∧ q < a + l.length
    · have e1 : hbl G a l q = l.getD (q - a) zc := if_pos h2
      have e2 : hbl G a (l.set i x) q = (l.set i x).getD (q - a) zc := if_pos ⟨h2.1, by rw [List.length_set]; omega⟩
      rw [e1, e2, List.getD_eq_getElem?_getD, List.getD_eq_getElem?_getD, List.getElem?_set_ne (by omega)]
    · rw [hbl_out h2, hbl_out (by rw [List.length_set]; exact h2)]
/-- a new object's cell -/
def ocell (ci : Nat) : xC := (ci + 1, (xCl ci).2.2, fun k => match xfty ci k with
        | some ty => defaultValue ty
        | none => .null)
section BL
variable {pF : Nat → List Value → xH → Option (Option Value × xH)} {d : Nat} {k : xK} {o nL : Nat} {ini : Bool} {ret : Option FieldType} {rr : Option Value} {hh : xH} {pc np : Nat} {lv : xL} {st : List Value} {G : Nat → xC} {a N u : Nat} {l : List xC}
theorem bE_newa {t : ArrayType} {j m : Nat} {n : Int32} {dv : Value} (hl : xAt k pc (.newarray t) np) (hj : xaty t = some j) (hn : ¬ n < 0 ∧ n.toNatClampNeg = m ∧ m ≤ 1000000) (hN : l.length = N) (hdv : defaultValue (newarray.typeOf t) = dv) (kk : xR pF d k o nL ini ret rr hh (np, lv, .ref (a + N) :: st, (hbl G a (l ++ [(20 + j, m, fun _ => dv)]), a + (N + 1), u + m))) :
    xR pF d k o nL ini ret rr hh (pc, lv, .int n :: st, (hbl G a l, a + N, u)) := by
  subst hdv
  obtain ⟨h1, rfl, h3⟩ := hn
  refine eE_newa (h' := (hbl G a (l ++ [(20 + j, n.toNatClampNeg, fun _ => defaultValue (newarray.typeOf t))]), a + (N + 1), u + n.toNatClampNeg)) hl hj ⟨h1, h3⟩ ?_ kk
  show _ = (xset (hbl G a l) (a + N) _, _, _)
  rw [hbl_push hN]
  rfl
theorem bE_new {idx ci : Nat} (hl : xAt k pc (.new idx) np) (hx : xkR o idx = some ci) (hi : xIt.contains ci = true) (hN : l.length = N) (kk : xR pF d k o nL ini ret rr hh (np, lv, .ref (a + N) :: st, (hbl G a (l ++ [ocell ci]), a + (N + 1), u + (xCl ci).2.2))) :
    xR pF d k o nL ini ret rr hh (pc, lv, st, (hbl G a l, a + N, u)) := by
  refine eE_new (h' := (hbl G a (l ++ [ocell ci]), a + (N + 1), u + (xCl ci).2.2)) hl hx hi ?_ kk
  show _ = (xset (hbl G a l) (a + N) (ocell ci), _, _)
  rw [hbl_push hN]
  rfl
theorem bE_put {idx ci f i : Nat} {v : Value} {ty : FieldType} {x : xC} {H : Nat × Nat} (hl : xAt k pc (.putfield idx) np) (hf : xfR o idx = some (ci, f)) (hx : l[i]? = some x) (ht : x.1 = ci + 1) (hn : f < (xCl ci).2.2) (hfin : (((xCl ci).2.1 f).2.2.2 = false) ∨ (ini = true ∧ ((xCl ci).2.1 f).1 = xOwn o)) (hty : xfty ci f = some ty) (hv : xfit ty v = true)
    (kk : xR pF d k o nL ini ret rr hh (np, lv, st, (hbl G a (l.set i (x.1, x.2.1, updV x.2.2 f v)), H))) : xR pF d k o nL ini ret rr hh (pc, lv, v :: .ref (a + i) :: st, (hbl G a l, H)) := by
  have e : hbl G a l (a + i) = x := hbl_in hx
  have hi := (List.getElem?_eq_some_iff.mp hx).1
  refine eE_put (h' := (hbl G a (l.set i (x.1, x.2.1, updV x.2.2 f v)), H)) hl hf (by show (hbl G a l (a + i)).1 = _; rw [e]; exact ht) hn hfin hty hv ?_ kk
  show _ = (xset (hbl G a l) (a + i) ((hbl G a l (a + i)).1, (hbl G a l (a + i)).2.1, updV (hbl G a l (a + i)).2.2 f v), H)
  rw [e, hbl_set hi]
theorem bE_init {idx y n m ci u' : Nat} {as : List Value} {st0 : List Value} {F : List xC} (hl : xAt k pc (.invokespecial idx) np) (hy : xmR o idx = some y ∨ (xmR o idx = none ∧ xnR o idx = some y)) (hn : xnargs y = n) (hst : st0 = as.reverse ++ .ref (a + N) :: st) (hlen : as.length = n) (hc : xcat st ≤ 8) (hw : xIn.contains y = true ∧ (xMn y).name = "<init>" ∧ xnoret y = true) (hN : l.length = N)
    (hcall : xCo pF d y (.ref (a + N) :: as) (hbl (hbl G a l) (a + N) [ocell ci], a + N + 1, u) none (hbl (hbl G a l) (a + N) F, a + N + m, u')) (kk : xR pF d k o nL ini ret rr hh (np, lv, st, (hbl G a (l ++ F), a + (N + m), u'))) : xR pF d k o nL ini ret rr hh (pc, lv, st0, (hbl G a (l ++ [ocell ci]), a + (N + 1), u)) := by
  subst hN
  rw [hbl_app, hbl_app] at hcall
  rw [← Nat.add_assoc] at kk
  rw [← Nat.add_assoc]
  exact eE_init hl hy hn hst hlen hc hw hcall kk
end BL
