/-! greatest and least of two; Arrays.copyOf; a field gets a longer copy of its array -/
def cmax (x y : Int32) : Int32 := if x < y then y else x
def cmin (x y : Int32) : Int32 := if y < x then y else x
section XCPY
variable {pF : Nat → List Value → xH → Option (Option Value × xH)} {d : Nat} {k : xK} {o nL : Nat} {ini : Bool} {pc np : Nat} {lv lv' : xL} {st : List Value} {h hh : xH} {ret : Option FieldType} {rr : Option Value}
theorem eE_max {idx : Nat} {x y : Int32} (hl : xAt k pc (.invokestatic idx) np) (hm : xmR o idx = some 396) (hc : xcat st ≤ 8) (kk : xR pF d k o nL ini ret rr hh (np, lv, .int (cmax x y) :: st, h)) : xR pF d k o nL ini ret rr hh (pc, lv, .int y :: .int x :: st, h) := by
  refine xE_m hl rfl (fun len => by simp [xpure]) ?_ kk
  obtain ⟨len, -, h2, h3⟩ := hl
  obtain rfl : len = 3 := by simp only [xlen] at h2; omega
  subst h3
  simp [xmem, hm, xMax, xmath, hc, cmax]
theorem eE_min {idx : Nat} {x y : Int32} (hl : xAt k pc (.invokestatic idx) np) (hm : xmR o idx = some 397) (hc : xcat st ≤ 8) (kk : xR pF d k o nL ini ret rr hh (np, lv, .int (cmin x y) :: st, h)) : xR pF d k o nL ini ret rr hh (pc, lv, .int y :: .int x :: st, h) := by
  refine xE_m hl rfl (fun len => by simp [xpure]) ?_ kk
  obtain ⟨len, -, h2, h3⟩ := hl
  obtain rfl : len = 3 := by simp only [xlen] at h2; omega
  subst h3
  simp [xmem, hm, xMax, xMin, xmath, hc, cmin]
theorem eE_alen {a : Nat} (hl : xAt k pc .arraylength np) (ht : 20 ≤ (h.1 a).1) (kk : xR pF d k o nL ini ret rr hh (np, lv, .int (Int32.ofNat (h.1 a).2.1) :: st, h)) : xR pF d k o nL ini ret rr hh (pc, lv, .ref a :: st, h) := by
  refine xE_p hl rfl (fun len e1 e2 => ?_) kk
  obtain rfl : len = 1 := by simp only [xlen] at e2; omega
  subst e1
  simp only [xpure, if_pos ht]
theorem eE_newa {t : ArrayType} {j : Nat} {n : Int32} {h' : xH} (hl : xAt k pc (.newarray t) np) (hj : xaty t = some j) (hn : ¬ n < 0 ∧ n.toNatClampNeg ≤ 1000000) (he : h' = (xset h.1 h.2.1 (20 + j, n.toNatClampNeg, fun _ => defaultValue (newarray.typeOf t)), h.2.1 + 1, h.2.2 + n.toNatClampNeg)) (kk : xR pF d k o nL ini ret rr hh (np, lv, .ref h.2.1 :: st, h')) : xR pF d k o nL ini ret rr hh (pc, lv, .int n :: st, h) := by
  subst he
  refine xE_m hl rfl (fun len => by simp [xpure]) ?_ kk
  obtain ⟨len, -, h2, h3⟩ := hl
  obtain rfl : len = 2 := by simp only [xlen] at h2; omega
  subst h3
  simp [xmem, hj, hn.1, hn.2]
theorem eE_acpy {idx : Nat} {a b : Nat} {s t n : Int32} {h' : xH} (hl : xAt k pc (.invokestatic idx) np) (hm : xmR o idx = none) (hx : xCp.contains (o, idx) = true) (hq : (h.1 a).1 = (h.1 b).1 ∧ 20 ≤ (h.1 a).1 ∧ (h.1 a).1 ≤ 23 ∧ ¬ s < 0 ∧ ¬ t < 0 ∧ ¬ n < 0 ∧ s.toNatClampNeg + n.toNatClampNeg ≤ (h.1 b).2.1 ∧ t.toNatClampNeg + n.toNatClampNeg ≤ (h.1 a).2.1 ∧ xcat st ≤ 8) (he : h' = (xset h.1 a ((h.1 a).1, (h.1 a).2.1, va_cpy (h.1 b).2.2 (h.1 a).2.2 s.toNatClampNeg t.toNatClampNeg n.toNatClampNeg), h.2)) (kk : xR pF d k o nL ini ret rr hh (np, lv, st, h')) : xR pF d k o nL ini ret rr hh (pc, lv, .int n :: .int t :: .ref a :: .int s :: .ref b :: st, h) := by
  subst he
  refine xE_m hl rfl (fun len => by simp [xpure]) ?_ kk
  obtain ⟨len, -, h2, h3⟩ := hl
  obtain rfl : len = 3 := by simp only [xlen] at h2; omega
  subst h3
  simp only [xmem, hm, hx, if_true, xcopy]
  rw [if_pos hq]
theorem eE_stA {j : Nat} {x : Nat} {i : Instr} (hl : xAt k pc i np) (hi : i = .astore j ∨ ∃ q : Fin 4, i = .astore_n q ∧ (q : Nat) = j) (hn : j < nL) (kk : ∀ lv', xg lv' j = some (.ref x) → xKeep j lv lv' → xR pF d k o nL ini ret rr hh (np, lv', st, h)) : xR pF d k o nL ini ret rr hh (pc, lv, .ref x :: st, h) := by
  have kq := kk _ xs1_keep.1 xs1_keep.2
  rcases hi with rfl | ⟨q, rfl, rfl⟩
  · exact eE_astore hl hn rfl kq
  · exact eE_astore_n hl hn rfl kq
end XCPY
section CMM
variable {E : CE} {Q : Nat → Bool} {pF : Nat → List Value → xH → Option (Option Value × xH)} {d : Nat} {k : xK} {o nL : Nat} {pc p1 np : Nat} {lv lv' : xL} {st : List Value} {ret : Option FieldType} {rr : Option Value} {cf c c' : CS} {g : CG}
theorem cR_max {idx : Nat} {x y : Int32} (hl : xAt k pc (.invokestatic idx) np) (hm : xmR o idx = some 396) (hc : xcat st ≤ 8) (kk : cR E Q pF d k o nL ret rr cf g c (np, lv, .int (cmax x y) :: st)) : cR E Q pF d k o nL ret rr cf g c (pc, lv, .int y :: .int x :: st) := cR_lift (fun _ _ q => eE_max hl hm hc q) kk
theorem cR_min {idx : Nat} {x y : Int32} (hl : xAt k pc (.invokestatic idx) np) (hm : xmR o idx = some 397) (hc : xcat st ≤ 8) (kk : cR E Q pF d k o nL ret rr cf g c (np, lv, .int (cmin x y) :: st)) : cR E Q pF d k o nL ret rr cf g c (pc, lv, .int y :: .int x :: st) := cR_lift (fun _ _ q => eE_min hl hm hc q) kk
end CMM
