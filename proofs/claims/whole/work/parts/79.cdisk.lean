/-! Disk's constructor: rules -/
section CD1
variable {pF : Nat → List Value → xH → Option (Option Value × xH)} {d : Nat} {k : xK} {o nL : Nat} {ini : Bool} {ret : Option FieldType} {rr : Option Value} {hh : xH} {pc np : Nat} {lv : xL} {st : List Value} {G : Nat → xC} {a N u : Nat} {l : List xC} {H : Nat × Nat}
theorem bE_anew {idx j m : Nat} {n : Int32} (hl : xAt k pc (.anewarray idx) np) (ha : xaR o idx = some j) (hj : 4 ≤ j ∧ j ≤ 7) (hn : ¬ n < 0 ∧ n.toNatClampNeg = m ∧ m ≤ 1000000) (hN : l.length = N) (kk : xR pF d k o nL ini ret rr hh (np, lv, .ref (a + N) :: st, (hbl G a (l ++ [(20 + j, m, fun _ => .null)]), a + (N + 1), u + m))) :
    xR pF d k o nL ini ret rr hh (pc, lv, .int n :: st, (hbl G a l, a + N, u)) := by
  obtain ⟨h1, rfl, h3⟩ := hn
  refine yE_anew (h' := (hbl G a (l ++ [(20 + j, n.toNatClampNeg, fun _ => .null)]), a + (N + 1), u + n.toNatClampNeg)) hl ha hj ⟨h1, h3⟩ ?_ kk
  show _ = (xset (hbl G a l) (a + N) _, _, _)
  rw [hbl_push hN]
  rfl
theorem bE_aastP {i v : Nat} {j : Int32} {x y : xC} (hl : xAt k pc .aastore np) (hx : l[i]? = some x) (ht : x.1 = 27) (hy : l[v]? = some y) (hv : y.1 = 12) (hj : ¬ (j < 0 ∨ x.2.1 ≤ j.toNatClampNeg)) (kk : xR pF d k o nL ini ret rr hh (np, lv, st, (hbl G a (l.set i (x.1, x.2.1, updV x.2.2 j.toNatClampNeg (.ref (a + v)))), H))) :
    xR pF d k o nL ini ret rr hh (pc, lv, .ref (a + v) :: .int j :: .ref (a + i) :: st, (hbl G a l, H)) := by
  have e : hbl G a l (a + i) = x := hbl_in hx
  have e2 : hbl G a l (a + v) = y := hbl_in hy
  have hi := (List.getElem?_eq_some_iff.mp hx).1
  refine xE_m (h' := (hbl G a (l.set i (x.1, x.2.1, updV x.2.2 j.toNatClampNeg (.ref (a + v)))), H)) hl rfl (fun len => by simp [xpure]) ?_ kk
  obtain ⟨len, -, h2, h3⟩ := hl
  obtain rfl : len = 1 := by simp only [xlen] at h2; omega
  subst h3
  simp only [xmem, xast, e, e2, ht, hv, if_neg hj]
  rw [← hbl_set hi]
  simp [ht]
theorem bE_aald {i : Nat} {j : Int32} {x : xC} {v : Value} (hl : xAt k pc .aaload np) (hx : l[i]? = some x) (ht : x.1 = 27) (hj : ¬ (j < 0 ∨ x.2.1 ≤ j.toNatClampNeg)) (hv : x.2.2 j.toNatClampNeg = v) (kk : xR pF d k o nL ini ret rr hh (np, lv, v :: st, (hbl G a l, H))) :
    xR pF d k o nL ini ret rr hh (pc, lv, .int j :: .ref (a + i) :: st, (hbl G a l, H)) := by
  have e : hbl G a l (a + i) = x := hbl_in hx
  refine xE_p hl rfl (fun len h1 h2 => ?_) kk
  obtain rfl : len = 1 := by simp only [xlen] at h2; omega
  subst h1
  subst hv
  simp [xpure, xald, e, ht, hj]
/-- the cells of the first p pages of a Disk at b -/
def pgs (b : Nat) : Nat → List xC
  | 0 => []
  | p + 1 => pgs b p ++ c108_F (b + (6 + 4 * p))
theorem pgs_len (b p : Nat) : (pgs b p).length = 4 * p := by
  induction p with
  | zero => rfl
  | succ p ih => show (pgs b p ++ c108_F _).length = _; rw [List.length_append, ih]; rfl
def pgu (u : Nat) : Nat → Nat
  | 0 => u
  | p + 1 => pgu u p + (xCl 11).2.2 + 0 + 0 + 0
/-- the first cell of a page -/
theorem pgs_at (b : Nat) {p q : Nat} (h : q < p) : (pgs b p)[4 * q]? = (c108_F (b + (6 + 4 * q)))[0]? := by
  induction p with
  | zero => omega
  | succ p ih =>
    show (pgs b p ++ c108_F _)[4 * q]? = _
    by_cases e : q = p
    · rw [e, List.getElem?_append_right (by rw [pgs_len]; omega), pgs_len, Nat.sub_self]
    · rw [List.getElem?_append_left (by rw [pgs_len]; omega), ih (by omega)]
end CD1
