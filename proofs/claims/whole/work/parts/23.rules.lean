/-! a rule an instruction, over xE (printed by wip/whole/gen_rules.py) -/
def xAt (k : xK) (pc : Nat) (i : Instr) (np : Nat) : Prop := ∃ len, k.lookup pc = some (i, len) ∧ (xlen i = 0 ∨ xlen i = len) ∧ pc + len = np
/-- a run that ends with a method's answer rr, in the heap hh -/
def xR (pF : Nat → List Value → xH → Option (Option Value × xH)) (d : Nat) (k : xK) (o nL : Nat) (ini : Bool) (ret : Option FieldType) (rr : Option Value) (hh : xH) (f : xF) : Prop := ∃ (pc : Nat) (lv : xL) (st : List Value) (i : Instr) (len : Nat), xE pF d k o nL ini f (pc, lv, st, hh) ∧ k.lookup pc = some (i, len) ∧ xfin ret i len st = some rr
theorem xR_n {pF : Nat → List Value → xH → Option (Option Value × xH)} {d : Nat} {k : xK} {o nL : Nat} {ini : Bool} {ret : Option FieldType} {rr : Option Value} {hh : xH} {f f' : xF} (m : Nat) (h : xsn k o nL ini m f = some f') (hk : xR pF d k o nL ini ret rr hh f') : xR pF d k o nL ini ret rr hh f := by
  obtain ⟨pc, lv, st, i, len, h1, h2⟩ := hk
  exact ⟨pc, lv, st, i, len, xE_n m h h1, h2⟩
theorem xR_c {pF : Nat → List Value → xH → Option (Option Value × xH)} {d : Nat} {k : xK} {o nL : Nat} {ini : Bool} {ret : Option FieldType} {rr : Option Value} {hh : xH} {pc len : Nat} {i : Instr} {lv : xL} {st : List Value} {h : xH} {f' : xF} (hl : k.lookup pc = some (i, len)) (he : xend i = false) (hc : ∃ N, ∀ F, N ≤ F → xop (xcall pF kkA moA F d) o nL ini i pc len lv st h = some f') (hk : xR pF d k o nL ini ret rr hh f') : xR pF d k o nL ini ret rr hh (pc, lv, st, h) := by
  obtain ⟨pc', lv', st', i', len', h1, h2⟩ := hk
  exact ⟨pc', lv', st', i', len', xE_c hl he hc h1, h2⟩
theorem xCo_R {pF : Nat → List Value → xH → Option (Option Value × xH)} {d y ml n o : Nat} {k : xK} {bytes : ByteArray} {ret : Option FieldType} {as : List Value} {h h' : xH} {r : Option Value} (hk : kkA y = k) (ho : moA y = o) (hi : decide ((xMn y).name = "<init>") = false) (hM : xM y = some (bytes, ml, ret, n)) (hlen : (lg_sl as).length ≤ ml) (hp : pF y as h = none)
    (hr : xR pF d k o ml false ret r h' (0, lv_args 0 as, [], h)) : xCo pF (d + 1) y as h r h' := by
  subst hk; subst ho
  obtain ⟨pc, lv, st, i, len, h1, h2, h3⟩ := hr
  rw [← hi] at h1
  exact xCo_of hM hlen hp h1 h2 h3
section XR
variable {pF : Nat → List Value → xH → Option (Option Value × xH)} {d : Nat} {k : xK} {o nL : Nat} {ini : Bool} {pc np : Nat} {lv lv' : xL} {st : List Value} {h hh : xH} {ret : Option FieldType} {rr : Option Value}
theorem xE_p {i : Instr} {pc' : Nat} {st' : List Value} (hl : xAt k pc i np) (he : xend i = false) (hp : ∀ len, pc + len = np → xlen i = 0 ∨ xlen i = len → xpure o nL i pc len lv st h = some (pc', lv', st')) (kk : xR pF d k o nL ini ret rr hh (pc', lv', st', h)) : xR pF d k o nL ini ret rr hh (pc, lv, st, h) := by
  obtain ⟨len, h1, h2, h3⟩ := hl
  refine xR_n 1 (f' := (pc', lv', st', h)) ?_ kk
  simp only [xsn, xs0, h1, he, xop, if_pos h2, hp len h3 h2, Bool.false_eq_true, if_false]
theorem xE_m {i : Instr} {pc' : Nat} {st' : List Value} {h' : xH} (hl : xAt k pc i np) (he : xend i = false) (hp : ∀ len, xpure o nL i pc len lv st h = none) (hm : xmem (fun _ _ _ => none) o ini i pc lv st h = some (pc', lv', st', h')) (kk : xR pF d k o nL ini ret rr hh (pc', lv', st', h')) : xR pF d k o nL ini ret rr hh (pc, lv, st, h) := by
  obtain ⟨len, h1, h2, h3⟩ := hl
  refine xR_n 1 (f' := (pc', lv', st', h')) ?_ kk
  simp only [xsn, xs0, h1, he, xop, if_pos h2, hp len, hm, Bool.false_eq_true, if_false]
theorem eE_iconst {n : Int} {v : Int32} (hl : xAt k pc (.iconst n) np) (hv : Int32.ofInt n = v) (kk : xR pF d k o nL ini ret rr hh (np, lv, .int v :: st, h)) : xR pF d k o nL ini ret rr hh (pc, lv, st, h) := by
  refine xE_p hl rfl (fun len h1 h2 => ?_) kk
  obtain rfl : len = 1 := by simp only [xlen] at h2; omega
  subst h1
  subst hv
  simp [xpure]
theorem eE_bipush {n : Int} {v : Int32} (hl : xAt k pc (.bipush n) np) (hv : (Int8.ofInt n).toInt32 = v) (kk : xR pF d k o nL ini ret rr hh (np, lv, .int v :: st, h)) : xR pF d k o nL ini ret rr hh (pc, lv, st, h) := by
  refine xE_p hl rfl (fun len h1 h2 => ?_) kk
  obtain rfl : len = 2 := by simp only [xlen] at h2; omega
  subst h1
  subst hv
  simp [xpure]
theorem eE_sipush {n : Int} {v : Int32} (hl : xAt k pc (.sipush n) np) (hv : (Int16.ofInt n).toInt32 = v) (kk : xR pF d k o nL ini ret rr hh (np, lv, .int v :: st, h)) : xR pF d k o nL ini ret rr hh (pc, lv, st, h) := by
  refine xE_p hl rfl (fun len h1 h2 => ?_) kk
  obtain rfl : len = 3 := by simp only [xlen] at h2; omega
  subst h1
  subst hv
  simp [xpure]
theorem eE_lconst {n : Fin 2} {v : Int64} (hl : xAt k pc (.lconst n) np) (hv : Int64.ofNat (n : Nat) = v) (kk : xR pF d k o nL ini ret rr hh (np, lv, .long v :: st, h)) : xR pF d k o nL ini ret rr hh (pc, lv, st, h) := by
  refine xE_p hl rfl (fun len h1 h2 => ?_) kk
  obtain rfl : len = 1 := by simp only [xlen] at h2; omega
  subst h1
  subst hv
  simp [xpure]
theorem eE_null  (hl : xAt k pc (.aconst_null) np) (kk : xR pF d k o nL ini ret rr hh (np, lv, .null :: st, h)) : xR pF d k o nL ini ret rr hh (pc, lv, st, h) := by
  refine xE_p hl rfl (fun len h1 h2 => ?_) kk
  obtain rfl : len = 1 := by simp only [xlen] at h2; omega
  subst h1
  simp [xpure]
theorem eE_ldc {i : Nat} {v : Int32} (hl : xAt k pc (.ldc i) np) (hv : xcR o i = some v) (kk : xR pF d k o nL ini ret rr hh (np, lv, .int v :: st, h)) : xR pF d k o nL ini ret rr hh (pc, lv, st, h) := by
  refine xE_p hl rfl (fun len h1 h2 => ?_) kk
  obtain rfl : len = 2 := by simp only [xlen] at h2; omega
  subst h1
  simp [xpure, hv]
theorem eE_ldc_w {i : Nat} {v : Int32} (hl : xAt k pc (.ldc_w i) np) (hv : xcR o i = some v) (kk : xR pF d k o nL ini ret rr hh (np, lv, .int v :: st, h)) : xR pF d k o nL ini ret rr hh (pc, lv, st, h) := by
  refine xE_p hl rfl (fun len h1 h2 => ?_) kk
  obtain rfl : len = 3 := by simp only [xlen] at h2; omega
  subst h1
  simp [xpure, hv]
theorem eE_ldc2_w {i : Nat} {v : Int64} (hl : xAt k pc (.ldc2_w i) np) (hv : xlR o i = some v) (kk : xR pF d k o nL ini ret rr hh (np, lv, .long v :: st, h)) : xR pF d k o nL ini ret rr hh (pc, lv, st, h) := by
  refine xE_p hl rfl (fun len h1 h2 => ?_) kk
  obtain rfl : len = 3 := by simp only [xlen] at h2; omega
  subst h1
  simp [xpure, hv]
theorem eE_iload_n {j : Fin 4} {x : Int32} (hl : xAt k pc (.iload_n j) np) (hg : xg lv j = some (.int x)) (kk : xR pF d k o nL ini ret rr hh (np, lv, .int x :: st, h)) : xR pF d k o nL ini ret rr hh (pc, lv, st, h) := by
  refine xE_p hl rfl (fun len h1 h2 => ?_) kk
  obtain rfl : len = 1 := by simp only [xlen] at h2; omega
  subst h1
  simp [xpure, xldI, hg]
theorem eE_iload {j : Nat} {x : Int32} (hl : xAt k pc (.iload j) np) (hg : xg lv j = some (.int x)) (kk : xR pF d k o nL ini ret rr hh (np, lv, .int x :: st, h)) : xR pF d k o nL ini ret rr hh (pc, lv, st, h) := by
  refine xE_p hl rfl (fun len h1 h2 => ?_) kk
  obtain rfl : len = 2 := by simp only [xlen] at h2; omega
  subst h1
  simp [xpure, xldI, hg]
theorem eE_lload_n {j : Fin 4} {x : Int64} (hl : xAt k pc (.lload_n j) np) (hg : xg lv j = some (.long x)) (kk : xR pF d k o nL ini ret rr hh (np, lv, .long x :: st, h)) : xR pF d k o nL ini ret rr hh (pc, lv, st, h) := by
  refine xE_p hl rfl (fun len h1 h2 => ?_) kk
  obtain rfl : len = 1 := by simp only [xlen] at h2; omega
  subst h1
  simp [xpure, xldL, hg]
theorem eE_lload {j : Nat} {x : Int64} (hl : xAt k pc (.lload j) np) (hg : xg lv j = some (.long x)) (kk : xR pF d k o nL ini ret rr hh (np, lv, .long x :: st, h)) : xR pF d k o nL ini ret rr hh (pc, lv, st, h) := by
  refine xE_p hl rfl (fun len h1 h2 => ?_) kk
  obtain rfl : len = 2 := by simp only [xlen] at h2; omega
  subst h1
  simp [xpure, xldL, hg]
theorem eE_aload_n {j : Fin 4} {x : Nat} (hl : xAt k pc (.aload_n j) np) (hg : xg lv j = some (.ref x)) (kk : xR pF d k o nL ini ret rr hh (np, lv, .ref x :: st, h)) : xR pF d k o nL ini ret rr hh (pc, lv, st, h) := by
  refine xE_p hl rfl (fun len h1 h2 => ?_) kk
  obtain rfl : len = 1 := by simp only [xlen] at h2; omega
  subst h1
  simp [xpure, xldA, hg]
theorem eE_aload {j : Nat} {x : Nat} (hl : xAt k pc (.aload j) np) (hg : xg lv j = some (.ref x)) (kk : xR pF d k o nL ini ret rr hh (np, lv, .ref x :: st, h)) : xR pF d k o nL ini ret rr hh (pc, lv, st, h) := by
  refine xE_p hl rfl (fun len h1 h2 => ?_) kk
  obtain rfl : len = 2 := by simp only [xlen] at h2; omega
  subst h1
  simp [xpure, xldA, hg]
theorem eE_aload_nN {j : Fin 4} (hl : xAt k pc (.aload_n j) np) (hg : xg lv j = some .null) (kk : xR pF d k o nL ini ret rr hh (np, lv, .null :: st, h)) : xR pF d k o nL ini ret rr hh (pc, lv, st, h) := by
  refine xE_p hl rfl (fun len h1 h2 => ?_) kk
  obtain rfl : len = 1 := by simp only [xlen] at h2; omega
  subst h1
  simp [xpure, xldA, hg]
theorem eE_istore_n {j : Fin 4} {x : Int32} (hl : xAt k pc (.istore_n j) np) (hn : (j : Nat) < nL) (hs : xs1 j (.int x) lv = lv') (kk : xR pF d k o nL ini ret rr hh (np, lv', st, h)) : xR pF d k o nL ini ret rr hh (pc, lv, .int x :: st, h) := by
  refine xE_p hl rfl (fun len h1 h2 => ?_) kk
  obtain rfl : len = 1 := by simp only [xlen] at h2; omega
  subst h1
  simp [xpure, xstI, hn, hs]
theorem eE_istore {j : Nat} {x : Int32} (hl : xAt k pc (.istore j) np) (hn : (j : Nat) < nL) (hs : xs1 j (.int x) lv = lv') (kk : xR pF d k o nL ini ret rr hh (np, lv', st, h)) : xR pF d k o nL ini ret rr hh (pc, lv, .int x :: st, h) := by
  refine xE_p hl rfl (fun len h1 h2 => ?_) kk
  obtain rfl : len = 2 := by simp only [xlen] at h2; omega
  subst h1
  simp [xpure, xstI, hn, hs]
theorem eE_lstore_n {j : Fin 4} {x : Int64} (hl : xAt k pc (.lstore_n j) np) (hn : (j : Nat) + 1 < nL) (hs : xs2 j (.long x) lv = lv') (kk : xR pF d k o nL ini ret rr hh (np, lv', st, h)) : xR pF d k o nL ini ret rr hh (pc, lv, .long x :: st, h) := by
  refine xE_p hl rfl (fun len h1 h2 => ?_) kk
  obtain rfl : len = 1 := by simp only [xlen] at h2; omega
  subst h1
  simp [xpure, xstL, hn, hs]
theorem eE_lstore {j : Nat} {x : Int64} (hl : xAt k pc (.lstore j) np) (hn : (j : Nat) + 1 < nL) (hs : xs2 j (.long x) lv = lv') (kk : xR pF d k o nL ini ret rr hh (np, lv', st, h)) : xR pF d k o nL ini ret rr hh (pc, lv, .long x :: st, h) := by
  refine xE_p hl rfl (fun len h1 h2 => ?_) kk
  obtain rfl : len = 2 := by simp only [xlen] at h2; omega
  subst h1
  simp [xpure, xstL, hn, hs]
theorem eE_astore_n {j : Fin 4} {x : Nat} (hl : xAt k pc (.astore_n j) np) (hn : (j : Nat) < nL) (hs : xs1 j (.ref x) lv = lv') (kk : xR pF d k o nL ini ret rr hh (np, lv', st, h)) : xR pF d k o nL ini ret rr hh (pc, lv, .ref x :: st, h) := by
  refine xE_p hl rfl (fun len h1 h2 => ?_) kk
  obtain rfl : len = 1 := by simp only [xlen] at h2; omega
  subst h1
  simp [xpure, xstA, hn, hs]
theorem eE_astore {j : Nat} {x : Nat} (hl : xAt k pc (.astore j) np) (hn : (j : Nat) < nL) (hs : xs1 j (.ref x) lv = lv') (kk : xR pF d k o nL ini ret rr hh (np, lv', st, h)) : xR pF d k o nL ini ret rr hh (pc, lv, .ref x :: st, h) := by
  refine xE_p hl rfl (fun len h1 h2 => ?_) kk
  obtain rfl : len = 2 := by simp only [xlen] at h2; omega
  subst h1
  simp [xpure, xstA, hn, hs]
theorem eE_iinc {j : Nat} {n : Int} {x v : Int32} (hl : xAt k pc (.iinc j n) np) (hg : xg lv j = some (.int x)) (hv : x + Int32.ofInt n = v) (hn : j < nL) (hs : xs1 j (.int v) lv = lv') (kk : xR pF d k o nL ini ret rr hh (np, lv', st, h)) : xR pF d k o nL ini ret rr hh (pc, lv, st, h) := by
  refine xE_p hl rfl (fun len h1 h2 => ?_) kk
  obtain rfl : len = 3 := by simp only [xlen] at h2; omega
  subst h1
  simp [xpure, hg, hn, hv, hs]
theorem eE_dup {v : Value} (hl : xAt k pc (.dup) np) (hv : v.category = 1) (kk : xR pF d k o nL ini ret rr hh (np, lv, v :: v :: st, h)) : xR pF d k o nL ini ret rr hh (pc, lv, v :: st, h) := by
  refine xE_p hl rfl (fun len h1 h2 => ?_) kk
  obtain rfl : len = 1 := by simp only [xlen] at h2; omega
  subst h1
  simp [xpure, hv]
theorem eE_pop {v : Value} (hl : xAt k pc (.pop) np) (hv : v.category = 1) (kk : xR pF d k o nL ini ret rr hh (np, lv, st, h)) : xR pF d k o nL ini ret rr hh (pc, lv, v :: st, h) := by
  refine xE_p hl rfl (fun len h1 h2 => ?_) kk
  obtain rfl : len = 1 := by simp only [xlen] at h2; omega
  subst h1
  simp [xpure, hv]
theorem eE_dup_x1 {v w : Value} (hl : xAt k pc (.dup_x1) np) (hv : v.category = 1) (hw : w.category = 1) (kk : xR pF d k o nL ini ret rr hh (np, lv, v :: w :: v :: st, h)) : xR pF d k o nL ini ret rr hh (pc, lv, v :: w :: st, h) := by
  refine xE_p hl rfl (fun len h1 h2 => ?_) kk
  obtain rfl : len = 1 := by simp only [xlen] at h2; omega
  subst h1
  simp [xpure, hv, hw]
theorem eE_dup2 {v w : Value} (hl : xAt k pc (.dup2) np) (hv : v.category = 1) (hw : w.category = 1) (kk : xR pF d k o nL ini ret rr hh (np, lv, v :: w :: v :: w :: st, h)) : xR pF d k o nL ini ret rr hh (pc, lv, v :: w :: st, h) := by
  refine xE_p hl rfl (fun len h1 h2 => ?_) kk
  obtain rfl : len = 1 := by simp only [xlen] at h2; omega
  subst h1
  simp [xpure, hv, hw]
theorem eE_iadd {x y : Int32} (hl : xAt k pc (.iadd) np) (kk : xR pF d k o nL ini ret rr hh (np, lv, .int (x + y) :: st, h)) : xR pF d k o nL ini ret rr hh (pc, lv, .int y :: .int x :: st, h) := by
  refine xE_p hl rfl (fun len h1 h2 => ?_) kk
  obtain rfl : len = 1 := by simp only [xlen] at h2; omega
  subst h1
  simp [xpure, xI2]
theorem eE_isub {x y : Int32} (hl : xAt k pc (.isub) np) (kk : xR pF d k o nL ini ret rr hh (np, lv, .int (x - y) :: st, h)) : xR pF d k o nL ini ret rr hh (pc, lv, .int y :: .int x :: st, h) := by
  refine xE_p hl rfl (fun len h1 h2 => ?_) kk
  obtain rfl : len = 1 := by simp only [xlen] at h2; omega
  subst h1
  simp [xpure, xI2]
theorem eE_imul {x y : Int32} (hl : xAt k pc (.imul) np) (kk : xR pF d k o nL ini ret rr hh (np, lv, .int (x * y) :: st, h)) : xR pF d k o nL ini ret rr hh (pc, lv, .int y :: .int x :: st, h) := by
  refine xE_p hl rfl (fun len h1 h2 => ?_) kk
  obtain rfl : len = 1 := by simp only [xlen] at h2; omega
  subst h1
  simp [xpure, xI2]
theorem eE_iand {x y : Int32} (hl : xAt k pc (.iand) np) (kk : xR pF d k o nL ini ret rr hh (np, lv, .int (x &&& y) :: st, h)) : xR pF d k o nL ini ret rr hh (pc, lv, .int y :: .int x :: st, h) := by
  refine xE_p hl rfl (fun len h1 h2 => ?_) kk
  obtain rfl : len = 1 := by simp only [xlen] at h2; omega
  subst h1
  simp [xpure, xI2]
theorem eE_ior {x y : Int32} (hl : xAt k pc (.ior) np) (kk : xR pF d k o nL ini ret rr hh (np, lv, .int (x ||| y) :: st, h)) : xR pF d k o nL ini ret rr hh (pc, lv, .int y :: .int x :: st, h) := by
  refine xE_p hl rfl (fun len h1 h2 => ?_) kk
  obtain rfl : len = 1 := by simp only [xlen] at h2; omega
  subst h1
  simp [xpure, xI2]
theorem eE_ixor {x y : Int32} (hl : xAt k pc (.ixor) np) (kk : xR pF d k o nL ini ret rr hh (np, lv, .int (x ^^^ y) :: st, h)) : xR pF d k o nL ini ret rr hh (pc, lv, .int y :: .int x :: st, h) := by
  refine xE_p hl rfl (fun len h1 h2 => ?_) kk
  obtain rfl : len = 1 := by simp only [xlen] at h2; omega
  subst h1
  simp [xpure, xI2]
theorem eE_ishl {x y : Int32} (hl : xAt k pc (.ishl) np) (kk : xR pF d k o nL ini ret rr hh (np, lv, .int (x <<< (y &&& 31)) :: st, h)) : xR pF d k o nL ini ret rr hh (pc, lv, .int y :: .int x :: st, h) := by
  refine xE_p hl rfl (fun len h1 h2 => ?_) kk
  obtain rfl : len = 1 := by simp only [xlen] at h2; omega
  subst h1
  simp [xpure, xI2]
theorem eE_ishr {x y : Int32} (hl : xAt k pc (.ishr) np) (kk : xR pF d k o nL ini ret rr hh (np, lv, .int (x >>> (y &&& 31)) :: st, h)) : xR pF d k o nL ini ret rr hh (pc, lv, .int y :: .int x :: st, h) := by
  refine xE_p hl rfl (fun len h1 h2 => ?_) kk
  obtain rfl : len = 1 := by simp only [xlen] at h2; omega
  subst h1
  simp [xpure, xI2]
theorem eE_iushr {x y : Int32} (hl : xAt k pc (.iushr) np) (kk : xR pF d k o nL ini ret rr hh (np, lv, .int ((x.toUInt32 >>> (y.toUInt32 &&& Int32.toUInt32 31)).toInt32) :: st, h)) : xR pF d k o nL ini ret rr hh (pc, lv, .int y :: .int x :: st, h) := by
  refine xE_p hl rfl (fun len h1 h2 => ?_) kk
  obtain rfl : len = 1 := by simp only [xlen] at h2; omega
  subst h1
  simp [xpure, xI2]
theorem eE_idiv {x y : Int32} (hl : xAt k pc (.idiv) np) (hy : ¬ y = 0) (kk : xR pF d k o nL ini ret rr hh (np, lv, .int (x / y) :: st, h)) : xR pF d k o nL ini ret rr hh (pc, lv, .int y :: .int x :: st, h) := by
  refine xE_p hl rfl (fun len h1 h2 => ?_) kk
  obtain rfl : len = 1 := by simp only [xlen] at h2; omega
  subst h1
  simp [xpure, xI2z, hy]
theorem eE_irem {x y : Int32} (hl : xAt k pc (.irem) np) (hy : ¬ y = 0) (kk : xR pF d k o nL ini ret rr hh (np, lv, .int (x - x / y * y) :: st, h)) : xR pF d k o nL ini ret rr hh (pc, lv, .int y :: .int x :: st, h) := by
  refine xE_p hl rfl (fun len h1 h2 => ?_) kk
  obtain rfl : len = 1 := by simp only [xlen] at h2; omega
  subst h1
  simp [xpure, xI2z, hy]
theorem eE_ineg {x : Int32} (hl : xAt k pc (.ineg) np) (kk : xR pF d k o nL ini ret rr hh (np, lv, .int (-x) :: st, h)) : xR pF d k o nL ini ret rr hh (pc, lv, .int x :: st, h) := by
  refine xE_p hl rfl (fun len h1 h2 => ?_) kk
  obtain rfl : len = 1 := by simp only [xlen] at h2; omega
  subst h1
  simp [xpure, xI1]
theorem eE_i2b {x : Int32} (hl : xAt k pc (.i2b) np) (kk : xR pF d k o nL ini ret rr hh (np, lv, .int x.toInt8.toInt32 :: st, h)) : xR pF d k o nL ini ret rr hh (pc, lv, .int x :: st, h) := by
  refine xE_p hl rfl (fun len h1 h2 => ?_) kk
  obtain rfl : len = 1 := by simp only [xlen] at h2; omega
  subst h1
  simp [xpure, xI1]
theorem eE_ladd {x y : Int64} (hl : xAt k pc (.ladd) np) (kk : xR pF d k o nL ini ret rr hh (np, lv, .long (x + y) :: st, h)) : xR pF d k o nL ini ret rr hh (pc, lv, .long y :: .long x :: st, h) := by
  refine xE_p hl rfl (fun len h1 h2 => ?_) kk
  obtain rfl : len = 1 := by simp only [xlen] at h2; omega
  subst h1
  simp [xpure, xJ2]
theorem eE_lmul {x y : Int64} (hl : xAt k pc (.lmul) np) (kk : xR pF d k o nL ini ret rr hh (np, lv, .long (x * y) :: st, h)) : xR pF d k o nL ini ret rr hh (pc, lv, .long y :: .long x :: st, h) := by
  refine xE_p hl rfl (fun len h1 h2 => ?_) kk
  obtain rfl : len = 1 := by simp only [xlen] at h2; omega
  subst h1
  simp [xpure, xJ2]
theorem eE_land {x y : Int64} (hl : xAt k pc (.land) np) (kk : xR pF d k o nL ini ret rr hh (np, lv, .long (x &&& y) :: st, h)) : xR pF d k o nL ini ret rr hh (pc, lv, .long y :: .long x :: st, h) := by
  refine xE_p hl rfl (fun len h1 h2 => ?_) kk
  obtain rfl : len = 1 := by simp only [xlen] at h2; omega
  subst h1
  simp [xpure, xJ2]
theorem eE_lor {x y : Int64} (hl : xAt k pc (.lor) np) (kk : xR pF d k o nL ini ret rr hh (np, lv, .long (x ||| y) :: st, h)) : xR pF d k o nL ini ret rr hh (pc, lv, .long y :: .long x :: st, h) := by
  refine xE_p hl rfl (fun len h1 h2 => ?_) kk
  obtain rfl : len = 1 := by simp only [xlen] at h2; omega
  subst h1
  simp [xpure, xJ2]
theorem eE_lxor {x y : Int64} (hl : xAt k pc (.lxor) np) (kk : xR pF d k o nL ini ret rr hh (np, lv, .long (x ^^^ y) :: st, h)) : xR pF d k o nL ini ret rr hh (pc, lv, .long y :: .long x :: st, h) := by
  refine xE_p hl rfl (fun len h1 h2 => ?_) kk
  obtain rfl : len = 1 := by simp only [xlen] at h2; omega
  subst h1
  simp [xpure, xJ2]
theorem eE_lrem {x y : Int64} (hl : xAt k pc (.lrem) np) (hy : ¬ y = 0) (kk : xR pF d k o nL ini ret rr hh (np, lv, .long (x - x / y * y) :: st, h)) : xR pF d k o nL ini ret rr hh (pc, lv, .long y :: .long x :: st, h) := by
  refine xE_p hl rfl (fun len h1 h2 => ?_) kk
  obtain rfl : len = 1 := by simp only [xlen] at h2; omega
  subst h1
  simp [xpure, xJ2z, hy]
theorem eE_lshl {x : Int64} {y : Int32} (hl : xAt k pc (.lshl) np) (kk : xR pF d k o nL ini ret rr hh (np, lv, .long (x <<< (y.toInt64 &&& 63)) :: st, h)) : xR pF d k o nL ini ret rr hh (pc, lv, .int y :: .long x :: st, h) := by
  refine xE_p hl rfl (fun len h1 h2 => ?_) kk
  obtain rfl : len = 1 := by simp only [xlen] at h2; omega
  subst h1
  simp [xpure, xJI]
theorem eE_lshr {x : Int64} {y : Int32} (hl : xAt k pc (.lshr) np) (kk : xR pF d k o nL ini ret rr hh (np, lv, .long (x >>> (y.toInt64 &&& 63)) :: st, h)) : xR pF d k o nL ini ret rr hh (pc, lv, .int y :: .long x :: st, h) := by
  refine xE_p hl rfl (fun len h1 h2 => ?_) kk
  obtain rfl : len = 1 := by simp only [xlen] at h2; omega
  subst h1
  simp [xpure, xJI]
theorem eE_lushr {x : Int64} {y : Int32} (hl : xAt k pc (.lushr) np) (kk : xR pF d k o nL ini ret rr hh (np, lv, .long ((x.toUInt64 >>> (y.toInt64.toUInt64 &&& Int64.toUInt64 63)).toInt64) :: st, h)) : xR pF d k o nL ini ret rr hh (pc, lv, .int y :: .long x :: st, h) := by
  refine xE_p hl rfl (fun len h1 h2 => ?_) kk
  obtain rfl : len = 1 := by simp only [xlen] at h2; omega
  subst h1
  simp [xpure, xJI]
theorem eE_i2l {x : Int32} (hl : xAt k pc (.i2l) np) (kk : xR pF d k o nL ini ret rr hh (np, lv, .long x.toInt64 :: st, h)) : xR pF d k o nL ini ret rr hh (pc, lv, .int x :: st, h) := by
  refine xE_p hl rfl (fun len h1 h2 => ?_) kk
  obtain rfl : len = 1 := by simp only [xlen] at h2; omega
  subst h1
  simp [xpure]
theorem eE_l2i {x : Int64} (hl : xAt k pc (.l2i) np) (kk : xR pF d k o nL ini ret rr hh (np, lv, .int x.toInt32 :: st, h)) : xR pF d k o nL ini ret rr hh (pc, lv, .long x :: st, h) := by
  refine xE_p hl rfl (fun len h1 h2 => ?_) kk
  obtain rfl : len = 1 := by simp only [xlen] at h2; omega
  subst h1
  simp [xpure]
theorem eE_lcmp {x y : Int64} (hl : xAt k pc (.lcmp) np) (kk : xR pF d k o nL ini ret rr hh (np, lv, .int (lg_cmp x y) :: st, h)) : xR pF d k o nL ini ret rr hh (pc, lv, .long y :: .long x :: st, h) := by
  refine xE_p hl rfl (fun len h1 h2 => ?_) kk
  obtain rfl : len = 1 := by simp only [xlen] at h2; omega
  subst h1
  simp [xpure]
theorem xj_of {pc t : Nat} {off : Int} (ht : (pc : Int) + off = (t : Int)) : 0 ≤ (pc : Int) + off ∧ xj pc off = t := ⟨by rw [ht]; exact Int.natCast_nonneg t, by unfold xj; rw [ht]; rfl⟩
theorem eE_goto {off : Int} {t : Nat} (hl : xAt k pc (.goto off) np) (ht : (pc : Int) + off = (t : Int)) (kk : xR pF d k o nL ini ret rr hh (t, lv, st, h)) : xR pF d k o nL ini ret rr hh (pc, lv, st, h) := by
  obtain ⟨h1, h2⟩ := xj_of ht
  exact xE_p hl rfl (fun len _ _ => by simp only [xpure, xjp, if_pos h1, h2]) kk
theorem eE_if {c : Jvm.ClassFile.Cond} {off : Int} {t : Nat} {x : Int32} (hl : xAt k pc (.ifCond c off) np) (ht : (pc : Int) + off = (t : Int)) (kt : xc0 c x = true → xR pF d k o nL ini ret rr hh (t, lv, st, h)) (kf : ¬ xc0 c x = true → xR pF d k o nL ini ret rr hh (np, lv, st, h)) : xR pF d k o nL ini ret rr hh (pc, lv, .int x :: st, h) := by
  obtain ⟨h1, h2⟩ := xj_of ht
  by_cases q : xc0 c x = true
  · exact xE_p hl rfl (fun len _ _ => by simp only [xpure, xbr, if_pos h1, if_pos q, h2]) (kt q)
  · refine xE_p hl rfl (fun len e1 e2 => ?_) (kf q)
    obtain rfl : len = 3 := by simp only [xlen] at e2; omega
    simp only [xpure, xbr, if_pos h1, if_neg q, e1]
theorem eE_icmp {c : Jvm.ClassFile.Cond} {off : Int} {t : Nat} {x y : Int32} (hl : xAt k pc (.if_icmp c off) np) (ht : (pc : Int) + off = (t : Int)) (kt : xc2 c x y = true → xR pF d k o nL ini ret rr hh (t, lv, st, h)) (kf : ¬ xc2 c x y = true → xR pF d k o nL ini ret rr hh (np, lv, st, h)) : xR pF d k o nL ini ret rr hh (pc, lv, .int y :: .int x :: st, h) := by
  obtain ⟨h1, h2⟩ := xj_of ht
  by_cases q : xc2 c x y = true
  · exact xE_p hl rfl (fun len _ _ => by simp only [xpure, xbr, if_pos h1, if_pos q, h2]) (kt q)
  · refine xE_p hl rfl (fun len e1 e2 => ?_) (kf q)
    obtain rfl : len = 3 := by simp only [xlen] at e2; omega
    simp only [xpure, xbr, if_pos h1, if_neg q, e1]
theorem eE_tsw {dd lo hi : Int} {offs : Array Int} {x : Int32} {off : Int} {t : Nat} (hl : xAt k pc (.tableswitch dd lo hi offs) np) (hx : ¬ (x.toInt < lo ∨ hi < x.toInt)) (ho : offs[(x.toInt - lo).toNat]? = some off) (ht : (pc : Int) + off = (t : Int)) (kk : xR pF d k o nL ini ret rr hh (t, lv, st, h)) : xR pF d k o nL ini ret rr hh (pc, lv, .int x :: st, h) := by
  obtain ⟨h1, h2⟩ := xj_of ht
  exact xE_p hl rfl (fun len _ _ => by simp only [xpure, xjp, if_neg hx, ho, if_pos h1, h2]) kk
theorem eE_tswD {dd lo hi : Int} {offs : Array Int} {x : Int32} {t : Nat} (hl : xAt k pc (.tableswitch dd lo hi offs) np) (hx : x.toInt < lo ∨ hi < x.toInt) (ht : (pc : Int) + dd = (t : Int)) (kk : xR pF d k o nL ini ret rr hh (t, lv, st, h)) : xR pF d k o nL ini ret rr hh (pc, lv, .int x :: st, h) := by
  obtain ⟨h1, h2⟩ := xj_of ht
  exact xE_p hl rfl (fun len _ _ => by simp only [xpure, xjp, if_pos hx, if_pos h1, h2]) kk
theorem eE_end {i : Instr} (hl : xAt k pc i np) (he : xend i = true) (hn : pc + 1 = np) (hf : xfin ret i 1 st = some rr) : xR pF d k o nL ini ret rr h (pc, lv, st, h) := by
  obtain ⟨len, h1, -, h3⟩ := hl
  obtain rfl : len = 1 := by omega
  exact ⟨pc, lv, st, i, 1, xE_end h1 he, h1, hf⟩
/-- the locals behind a store, by what is known of them -/
def xKeep (j : Nat) (lv lv' : xL) : Prop := ∀ (i : Nat) (w : Value), i ≠ j → (i + 1 = j → w.category = 1) → xg lv i = some w → xg lv' i = some w
theorem xg_filter {f : Nat × Value → Bool} : ∀ {lv : xL} {i : Nat} {w : Value}, xg lv i = some w → f (i, w) = true → xg (lv.filter f) i = some w
  | [], _, _, h, _ => by simp [xg] at h
  | q :: l, i, w, h, hf => by
    unfold xg at h
    split at h
    next hq =>
      cases h; subst hq
      rw [List.filter_cons_of_pos hf]
      simp [xg]
    next hq =>
      by_cases hz : f q = true
      · rw [List.filter_cons_of_pos hz]
        unfold xg
        rw [if_neg hq]
        exact xg_filter h hf
      · rw [List.filter_cons_of_neg hz]
        exact xg_filter h hf
theorem xs1_keep {j : Nat} {v : Value} {lv : xL} : xg (xs1 j v lv) j = some v ∧ xKeep j lv (xs1 j v lv) := by
  refine ⟨by simp [xs1, xg], fun i w hi hc h => ?_⟩
  unfold xs1 xg
  rw [if_neg (fun q => hi q.symm)]
  refine xg_filter h ?_
  simp only [Bool.and_eq_true, Bool.not_eq_true', beq_eq_false_iff_ne, ne_eq, Bool.and_eq_false_iff]
  refine ⟨hi, ?_⟩
  by_cases q : i + 1 = j
  · right; rw [hc q]; decide
  · left; exact q
theorem eE_stI {j : Nat} {x : Int32} {i : Instr} (hl : xAt k pc i np) (hi : i = .istore j ∨ ∃ q : Fin 4, i = .istore_n q ∧ (q : Nat) = j) (hn : j < nL) (kk : ∀ lv', xg lv' j = some (.int x) → xKeep j lv lv' → xR pF d k o nL ini ret rr hh (np, lv', st, h)) : xR pF d k o nL ini ret rr hh (pc, lv, .int x :: st, h) := by
  have kq := kk _ xs1_keep.1 xs1_keep.2
  rcases hi with rfl | ⟨q, rfl, rfl⟩
  · exact eE_istore hl hn rfl kq
  · exact eE_istore_n hl hn rfl kq
theorem eE_inc {j : Nat} {n : Int} {x v : Int32} (hl : xAt k pc (.iinc j n) np) (hg : xg lv j = some (.int x)) (hv : x + Int32.ofInt n = v) (hn : j < nL) (kk : ∀ lv', xg lv' j = some (.int v) → xKeep j lv lv' → xR pF d k o nL ini ret rr hh (np, lv', st, h)) : xR pF d k o nL ini ret rr hh (pc, lv, st, h) :=
  eE_iinc hl hg hv hn rfl (kk _ xs1_keep.1 xs1_keep.2)
theorem xs2_keep {j : Nat} {v : Value} {lv : xL} : xg (xs2 j v lv) j = some v ∧ ∀ (i : Nat) (w : Value), i ≠ j → i ≠ j + 1 → (i + 1 = j → w.category = 1) → xg lv i = some w → xg (xs2 j v lv) i = some w := by
  refine ⟨by simp [xs2, xg], fun i w hi hi2 hc h => ?_⟩
  unfold xs2 xg
  rw [if_neg (fun q => hi q.symm)]
  refine xg_filter h ?_
  simp only [Bool.and_eq_true, Bool.not_eq_true', beq_eq_false_iff_ne, ne_eq, Bool.and_eq_false_iff]
  refine ⟨hi, hi2, ?_⟩
  by_cases q : i + 1 = j
  · right; rw [hc q]; decide
  · left; exact q
theorem eE_stL {j : Nat} {x : Int64} {i : Instr} (hl : xAt k pc i np) (hi : i = .lstore j ∨ ∃ q : Fin 4, i = .lstore_n q ∧ (q : Nat) = j) (hn : j + 1 < nL) (kk : ∀ lv', xg lv' j = some (.long x) → (∀ (i : Nat) (w : Value), i ≠ j → i ≠ j + 1 → (i + 1 = j → w.category = 1) → xg lv i = some w → xg lv' i = some w) → xR pF d k o nL ini ret rr hh (np, lv', st, h)) : xR pF d k o nL ini ret rr hh (pc, lv, .long x :: st, h) := by
  have kq := kk _ xs2_keep.1 xs2_keep.2
  rcases hi with rfl | ⟨q, rfl, rfl⟩
  · exact eE_lstore hl hn rfl kq
  · exact eE_lstore_n hl hn rfl kq
/-- a virtual call -/
theorem eE_virt {idx y n : Nat} {as : List Value} {b : Nat} {r : Option Value} {h' : xH} {st0 : List Value} (hl : xAt k pc (.invokevirtual idx) np) (hy : xmR o idx = some y) (hn : xnargs y = n) (hst : st0 = as.reverse ++ .ref b :: st) (hlen : as.length = n) (hc : xcat st ≤ 8)
    (hw : xSe.contains y = true ∧ xIn.contains y = true) (hb : (xMn y).cls = (xCl ((h.1 b).1 - 1)).1 ∧ 0 < (h.1 b).1 ∧ (h.1 b).1 ≤ 17) (hcall : xCo pF d y (.ref b :: as) h r h') (kk : xR pF d k o nL ini ret rr hh (np, lv, r.toList ++ st, h')) : xR pF d k o nL ini ret rr hh (pc, lv, st0, h) := by
  obtain ⟨len, h1, h2, h3⟩ := hl
  obtain rfl : len = 3 := by simp only [xlen] at h2; omega
  subst h3
  refine xR_c h1 rfl ?_ kk
  obtain ⟨N, hN⟩ := hcall
  refine ⟨N, fun F hF => ?_⟩
  have e1 : st0.drop n = .ref b :: st := by rw [hst, List.drop_left' (by rw [List.length_reverse]; exact hlen)]
  have e2 : (st0.take n).reverse = as := by rw [hst, List.take_left' (by rw [List.length_reverse]; exact hlen), List.reverse_reverse]
  have e3 : n ≤ st0.length := by rw [hst, List.length_append, List.length_reverse, hlen]; omega
  simp only [xop, if_pos h2, xpure, xmem, hy, xvirt, hn, e1, e2, e3, hw.1, hw.2, hb.1, hb.2.1, hb.2.2, and_self, if_true, xcall1, if_pos hc, hN F hF]
/-- a static call -/
theorem eE_stat {idx y n : Nat} {as : List Value} {r : Option Value} {h' : xH} {st0 : List Value} (hl : xAt k pc (.invokestatic idx) np) (hy : xmR o idx = some y) (hn : xnargs y = n) (hst : st0 = as.reverse ++ st) (hlen : as.length = n) (hc : xcat st ≤ 8) (hm : ¬ y = xMax ∧ ¬ y = xMin)
    (hw : xSt.contains y = true) (hcall : xCo pF d y as h r h') (kk : xR pF d k o nL ini ret rr hh (np, lv, r.toList ++ st, h')) : xR pF d k o nL ini ret rr hh (pc, lv, st0, h) := by
  obtain ⟨len, h1, h2, h3⟩ := hl
  obtain rfl : len = 3 := by simp only [xlen] at h2; omega
  subst h3
  refine xR_c h1 rfl ?_ kk
  obtain ⟨N, hN⟩ := hcall
  refine ⟨N, fun F hF => ?_⟩
  have e1 : st0.drop n = st := by rw [hst, List.drop_left' (by rw [List.length_reverse]; exact hlen)]
  have e2 : (st0.take n).reverse = as := by rw [hst, List.take_left' (by rw [List.length_reverse]; exact hlen), List.reverse_reverse]
  have e3 : n ≤ st0.length := by rw [hst, List.length_append, List.length_reverse, hlen]; omega
  simp only [xop, if_pos h2, xpure, xmem, hy, if_neg hm.1, if_neg hm.2, xstat, hn, e1, e2, e3, hw, and_self, if_true, xcall1, if_pos hc, hN F hF]
end XR
