/-! ArrayList: rules for its instructions; copyOf, grow and the constructor by their walks (pY: what is done by itself) -/
section YE
variable {pF : Nat → List Value → xH → Option (Option Value × xH)} {d : Nat} {k : xK} {o nL : Nat} {ini : Bool} {pc np : Nat} {lv lv' : xL} {st : List Value} {h hh : xH} {ret : Option FieldType} {rr : Option Value}
theorem yE_acmpN {off : Int} {a : Nat} (hl : xAt k pc (.if_acmp .ne off) np) (ho : 0 ≤ (pc : Int) + off) (kk : xR pF d k o nL ini ret rr hh (np, lv, st, h)) : xR pF d k o nL ini ret rr hh (pc, lv, .ref a :: .ref a :: st, h) := by
  refine xE_p hl rfl (fun len h1 h2 => ?_) kk
  obtain rfl : len = 3 := by simp only [xlen] at h2; omega
  subst h1
  simp [xpure, xbr, ho]
theorem yE_acmpT {off : Int} {a t : Nat} (hl : xAt k pc (.if_acmp .eq off) np) (ho : (pc : Int) + off = (t : Int)) (kk : xR pF d k o nL ini ret rr hh (t, lv, st, h)) : xR pF d k o nL ini ret rr hh (pc, lv, .ref a :: .ref a :: st, h) := by
  refine xE_p hl rfl (fun len h1 h2 => ?_) kk
  simp [xpure, xbr, xj, ho]
theorem yE_anew {idx j : Nat} {n : Int32} {h' : xH} (hl : xAt k pc (.anewarray idx) np) (ha : xaR o idx = some j) (hj : 4 ≤ j ∧ j ≤ 7) (hn : ¬ n < 0 ∧ n.toNatClampNeg ≤ 1000000) (he : h' = (xset h.1 h.2.1 (20 + j, n.toNatClampNeg, fun _ => .null), h.2.1 + 1, h.2.2 + n.toNatClampNeg)) (kk : xR pF d k o nL ini ret rr hh (np, lv, .ref h.2.1 :: st, h')) : xR pF d k o nL ini ret rr hh (pc, lv, .int n :: st, h) := by
  subst he
  refine xE_m hl rfl (fun len => by simp [xpure]) ?_ kk
  obtain ⟨len, -, h2, h3⟩ := hl
  obtain rfl : len = 3 := by simp only [xlen] at h2; omega
  subst h3
  simp [xmem, ha, hj.1, hj.2, hn.1, hn.2]
theorem yE_cpyq {idx : Nat} {a b : Nat} {s t n : Int32} {h' : xH} (hl : xAt k pc (.invokestatic idx) np) (hm : xmR o idx = none) (hx : xCp.contains (o, idx) = true) (hq : (h.1 a).1 = 24 ∧ 0 < (h.1 a).2.1 ∧ (h.1 b).1 = 24 ∧ 0 < (h.1 b).2.1 ∧ ¬ s < 0 ∧ ¬ t < 0 ∧ ¬ n < 0 ∧ s.toNatClampNeg + n.toNatClampNeg ≤ (h.1 b).2.1 ∧ t.toNatClampNeg + n.toNatClampNeg ≤ (h.1 a).2.1 ∧ xcat st ≤ 8 ∧ (List.range n.toNatClampNeg).all (fun i => xlet h ((h.1 b).2.2 (s.toNatClampNeg + i))) = true)
    (he : h' = (xset h.1 a ((h.1 a).1, (h.1 a).2.1, va_cpy (h.1 b).2.2 (h.1 a).2.2 s.toNatClampNeg t.toNatClampNeg n.toNatClampNeg), h.2)) (kk : xR pF d k o nL ini ret rr hh (np, lv, st, h')) : xR pF d k o nL ini ret rr hh (pc, lv, .int n :: .int t :: .ref a :: .int s :: .ref b :: st, h) := by
  subst he
  refine xE_m hl rfl (fun len => by simp [xpure]) ?_ kk
  obtain ⟨len, -, h2, h3⟩ := hl
  obtain rfl : len = 3 := by simp only [xlen] at h2; omega
  subst h3
  have hno : xcopy pc lv (.int n :: .int t :: .ref a :: .int s :: .ref b :: st) h = none := by
    unfold xcopy
    dsimp only
    rw [if_neg]
    intro z
    omega
  simp only [xmem, hm, hx, if_true, hno, xcopyq]
  rw [if_pos hq]
theorem yE_aast {a v : Nat} {i : Int32} {h' : xH} (hl : xAt k pc .aastore np) (ht : (h.1 a).1 = 24) (hv : (h.1 v).1 = 9) (hi : ¬ (i < 0 ∨ (h.1 a).2.1 ≤ i.toNatClampNeg)) (he : h' = (xset h.1 a (24, (h.1 a).2.1, updV (h.1 a).2.2 i.toNatClampNeg (.ref v)), h.2)) (kk : xR pF d k o nL ini ret rr hh (np, lv, st, h')) : xR pF d k o nL ini ret rr hh (pc, lv, .ref v :: .int i :: .ref a :: st, h) := by
  subst he
  refine xE_m hl rfl (fun len => by simp [xpure]) ?_ kk
  obtain ⟨len, -, h2, h3⟩ := hl
  obtain rfl : len = 1 := by simp only [xlen] at h2; omega
  subst h3
  simp only [xmem, ht, hv, and_self, if_true, xast, if_neg hi]
theorem yE_aastN {a : Nat} {i : Int32} {h' : xH} (hl : xAt k pc .aastore np) (ht : (h.1 a).1 = 24) (hi : ¬ (i < 0 ∨ (h.1 a).2.1 ≤ i.toNatClampNeg)) (he : h' = (xset h.1 a (24, (h.1 a).2.1, updV (h.1 a).2.2 i.toNatClampNeg .null), h.2)) (kk : xR pF d k o nL ini ret rr hh (np, lv, st, h')) : xR pF d k o nL ini ret rr hh (pc, lv, .null :: .int i :: .ref a :: st, h) := by
  subst he
  refine xE_m hl rfl (fun len => by simp [xpure]) ?_ kk
  obtain ⟨len, -, h2, h3⟩ := hl
  obtain rfl : len = 1 := by simp only [xlen] at h2; omega
  subst h3
  simp only [xmem, ht, if_true, xast, if_neg hi]
theorem yE_aald {a : Nat} {i : Int32} {v : Value} (hl : xAt k pc .aaload np) (ht : (h.1 a).1 = 24) (hi : ¬ (i < 0 ∨ (h.1 a).2.1 ≤ i.toNatClampNeg)) (hv : (h.1 a).2.2 i.toNatClampNeg = v) (kk : xR pF d k o nL ini ret rr hh (np, lv, v :: st, h)) : xR pF d k o nL ini ret rr hh (pc, lv, .int i :: .ref a :: st, h) := by
  refine xE_p hl rfl (fun len h1 h2 => ?_) kk
  obtain rfl : len = 1 := by simp only [xlen] at h2; omega
  subst h1
  simp only [xpure, xald, ht, if_neg hi, hv]
  rfl
theorem yE_modg {a : Nat} {v : Value} (hl : xAt k pc (.getfield 63) np) (ho : o = 3) (ht : (h.1 a).1 = 4) (hv : (h.1 a).2.2 0 = v) (kk : xR pF d k o nL ini ret rr hh (np, lv, v :: st, h)) : xR pF d k o nL ini ret rr hh (pc, lv, .ref a :: st, h) := by
  subst ho
  have hn : xfR 3 63 = none := by decide +kernel
  refine xE_m hl rfl (fun len => by simp [xpure, xgetf, hn]) ?_ kk
  obtain ⟨len, -, h2, h3⟩ := hl
  obtain rfl : len = 3 := by simp only [xlen] at h2; omega
  subst h3
  simp [xmem, ht, hv]
theorem yE_modp {idx a : Nat} {x : Int32} {h' : xH} (hl : xAt k pc (.putfield idx) np) (ho : o = 3 ∧ idx = 63 ∨ o = 21 ∧ idx = 7) (ht : (h.1 a).1 = 4) (he : h' = (xset h.1 a (4, (h.1 a).2.1, updV (h.1 a).2.2 0 (.int x)), h.2)) (kk : xR pF d k o nL ini ret rr hh (np, lv, st, h')) : xR pF d k o nL ini ret rr hh (pc, lv, .int x :: .ref a :: st, h) := by
  subst he
  have hn : xfR o idx = none := by
    rcases ho with ⟨rfl, rfl⟩ | ⟨rfl, rfl⟩ <;> decide +kernel
  refine xE_m hl rfl (fun len => by simp [xpure]) ?_ kk
  obtain ⟨len, -, h2, h3⟩ := hl
  obtain rfl : len = 3 := by simp only [xlen] at h2; omega
  subst h3
  simp only [xmem, hn]
  rw [if_pos ⟨ho, ht⟩, ht]
/-- fields of a list -/
theorem yE_getf {idx f a : Nat} {v : Value} (hl : xAt k pc (.getfield idx) np) (hf : xfR o idx = some (3, f)) (ht : (h.1 a).1 = 4) (hv : (h.1 a).2.2 f = v) (kk : xR pF d k o nL ini ret rr hh (np, lv, v :: st, h)) : xR pF d k o nL ini ret rr hh (pc, lv, .ref a :: st, h) := by
  refine xE_p hl rfl (fun len h1 h2 => ?_) kk
  obtain rfl : len = 3 := by simp only [xlen] at h2; omega
  subst h1
  simp [xpure, xgetf, hf, ht, hv]
theorem yE_putS {a : Nat} {x : Int32} {h' : xH} (hl : xAt k pc (.putfield 48) np) (ho : o = 3) (ht : (h.1 a).1 = 4) (he : h' = (xset h.1 a (4, (h.1 a).2.1, updV (h.1 a).2.2 2 (.int x)), h.2)) (kk : xR pF d k o nL ini ret rr hh (np, lv, st, h')) : xR pF d k o nL ini ret rr hh (pc, lv, .int x :: .ref a :: st, h) := by
  subst ho
  subst he
  refine xE_m hl rfl (fun len => by simp [xpure]) ?_ kk
  obtain ⟨len, -, h2, h3⟩ := hl
  obtain rfl : len = 3 := by simp only [xlen] at h2; omega
  subst h3
  have e1 : (2 : Nat) < (xCl 3).2.2 ∧ ((xCl 3).2.1 2).2.2.2 = false ∧ xfty 3 2 = some .int := by decide +kernel
  simp [xmem, yrf_3_48, ht, e1.1, e1.2.1, e1.2.2, xfit]
theorem yE_putE {a b : Nat} {h' : xH} (hl : xAt k pc (.putfield 9) np) (ho : o = 3) (ht : (h.1 a).1 = 4) (he : h' = (xset h.1 a (4, (h.1 a).2.1, updV (h.1 a).2.2 1 (.ref b)), h.2)) (kk : xR pF d k o nL ini ret rr hh (np, lv, st, h')) : xR pF d k o nL ini ret rr hh (pc, lv, .ref b :: .ref a :: st, h) := by
  subst ho
  subst he
  refine xE_m hl rfl (fun len => by simp [xpure]) ?_ kk
  obtain ⟨len, -, h2, h3⟩ := hl
  obtain rfl : len = 3 := by simp only [xlen] at h2; omega
  subst h3
  have e1 : (1 : Nat) < (xCl 3).2.2 ∧ ((xCl 3).2.1 1).2.2.2 = false ∧ xfty 3 1 = some (.array (.object "java/lang/Object")) := by decide +kernel
  simp [xmem, yrf_3_9, ht, e1.1, e1.2.1, e1.2.2, xfit]
/-- what is done by itself -/
theorem yCo_b {y : Nat} {as : List Value} {r : Option Value} {h' : xH} (hp : pF y as h = some (r, h')) (hd : 4 ≤ d) : xCo pF (d + 1) y as h r h' := ⟨0, fun F _ => by simp only [xcall, if_pos hd, hp]⟩
end YE
/-- a single contract as a table of calls -/
noncomputable def xone (y0 : Nat) (as0 : List Value) (h0 : xH) (q : Option Value × xH) : Nat → List Value → xH → Option (Option Value × xH) := fun y as h => @ite _ (y = y0 ∧ as = as0 ∧ h = h0) (Classical.propDecidable _) (some q) none
theorem xone_at {y0 : Nat} {as0 : List Value} {h0 : xH} {q : Option Value × xH} : xone y0 as0 h0 q y0 as0 h0 = some q := by
  unfold xone
  rw [if_pos ⟨rfl, rfl, rfl⟩]
theorem xone_ok {P : Nat → List Value → xH → Option Value → xH → Prop} {y0 : Nat} {as0 : List Value} {h0 h1 : xH} {r0 : Option Value} (hp : P y0 as0 h0 r0 h1) : ∀ y as h r h', xone y0 as0 h0 (r0, h1) y as h = some (r, h') → P y as h r h' := by
  intro y as h r h' he
  unfold xone at he
  split at he
  next q =>
    obtain ⟨rfl, rfl, rfl⟩ := q
    cases he
    exact hp
  next => cases he
