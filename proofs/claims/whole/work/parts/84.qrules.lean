/-! part 23's rules once more: a run that comes to the frame gg (printed by wip/whole/gen_vx.py) -/
def xQ (pF : Nat → List Value → xH → Option (Option Value × xH)) (d : Nat) (k : xK) (o nL : Nat) (ini : Bool) (gg f : xF) : Prop := ∃ (N n : Nat), ∀ F, N ≤ F → xstp (xcall pF kkA moA F d) k o nL ini n f = some gg
theorem xQ_r {pF : Nat → List Value → xH → Option (Option Value × xH)} {d : Nat} {k : xK} {o nL : Nat} {ini : Bool} {f : xF} : xQ pF d k o nL ini f f := ⟨0, 0, fun _ _ => rfl⟩
theorem xQ_1 {pF : Nat → List Value → xH → Option (Option Value × xH)} {d : Nat} {k : xK} {o nL : Nat} {ini : Bool} {gg : xF} {pc len : Nat} {i : Instr} {lv : xL} {st : List Value} {h : xH} {f' : xF} (hl : k.lookup pc = some (i, len)) (he : xend i = false) (hc : ∃ N, ∀ F, N ≤ F → xop (xcall pF kkA moA F d) o nL ini i pc len lv st h = some f') (hk : xQ pF d k o nL ini gg f') : xQ pF d k o nL ini gg (pc, lv, st, h) := by
  obtain ⟨N1, n, h1⟩ := hk
  obtain ⟨N2, h2⟩ := hc
  refine ⟨N1 + N2, n + 1, fun F hF => ?_⟩
  unfold xstp
  simp only [hl, he, Bool.false_eq_true, if_false, h2 F (by omega)]
  exact h1 F (by omega)
theorem xQ_c {pF : Nat → List Value → xH → Option (Option Value × xH)} {d : Nat} {k : xK} {o nL : Nat} {ini : Bool} {gg : xF} {pc len : Nat} {i : Instr} {lv : xL} {st : List Value} {h : xH} {f' : xF} (hl : k.lookup pc = some (i, len)) (he : xend i = false) (hc : ∃ N, ∀ F, N ≤ F → xop (xcall pF kkA moA F d) o nL ini i pc len lv st h = some f') (hk : xQ pF d k o nL ini gg f') : xQ pF d k o nL ini gg (pc, lv, st, h) := xQ_1 hl he hc hk
section XQ
variable {pF : Nat → List Value → xH → Option (Option Value × xH)} {d : Nat} {k : xK} {o nL : Nat} {ini : Bool} {pc np : Nat} {lv lv' : xL} {st : List Value} {h : xH} {gg : xF}
theorem xQ_p {i : Instr} {pc' : Nat} {st' : List Value} (hl : xAt k pc i np) (he : xend i = false) (hp : ∀ len, pc + len = np → xlen i = 0 ∨ xlen i = len → xpure o nL i pc len lv st h = some (pc', lv', st')) (kk : xQ pF d k o nL ini gg (pc', lv', st', h)) : xQ pF d k o nL ini gg (pc, lv, st, h) := by
  obtain ⟨len, h1, h2, h3⟩ := hl
  refine xQ_1 h1 he ⟨0, fun F _ => ?_⟩ kk
  simp only [xop, if_pos h2, hp len h3 h2]
theorem xQ_m {i : Instr} {pc' : Nat} {st' : List Value} {h' : xH} (hl : xAt k pc i np) (he : xend i = false) (hp : ∀ len, xpure o nL i pc len lv st h = none) (hm : xmem (fun _ _ _ => none) o ini i pc lv st h = some (pc', lv', st', h')) (kk : xQ pF d k o nL ini gg (pc', lv', st', h')) : xQ pF d k o nL ini gg (pc, lv, st, h) := by
  obtain ⟨len, h1, h2, h3⟩ := hl
  refine xQ_1 h1 he ⟨0, fun F _ => ?_⟩ kk
  simp only [xop, if_pos h2, hp len, xmem_none hm]
theorem eQ_iconst {n : Int} {v : Int32} (hl : xAt k pc (.iconst n) np) (hv : Int32.ofInt n = v) (kk : xQ pF d k o nL ini gg (np, lv, .int v :: st, h)) : xQ pF d k o nL ini gg (pc, lv, st, h) := by
  refine xQ_p hl rfl (fun len h1 h2 => ?_) kk
  obtain rfl : len = 1 := by simp only [xlen] at h2; omega
  subst h1
  subst hv
  simp [xpure]
theorem eQ_bipush {n : Int} {v : Int32} (hl : xAt k pc (.bipush n) np) (hv : (Int8.ofInt n).toInt32 = v) (kk : xQ pF d k o nL ini gg (np, lv, .int v :: st, h)) : xQ pF d k o nL ini gg (pc, lv, st, h) := by
  refine xQ_p hl rfl (fun len h1 h2 => ?_) kk
  obtain rfl : len = 2 := by simp only [xlen] at h2; omega
  subst h1
  subst hv
  simp [xpure]
theorem eQ_sipush {n : Int} {v : Int32} (hl : xAt k pc (.sipush n) np) (hv : (Int16.ofInt n).toInt32 = v) (kk : xQ pF d k o nL ini gg (np, lv, .int v :: st, h)) : xQ pF d k o nL ini gg (pc, lv, st, h) := by
  refine xQ_p hl rfl (fun len h1 h2 => ?_) kk
  obtain rfl : len = 3 := by simp only [xlen] at h2; omega
  subst h1
  subst hv
  simp [xpure]
theorem eQ_lconst {n : Fin 2} {v : Int64} (hl : xAt k pc (.lconst n) np) (hv : Int64.ofNat (n : Nat) = v) (kk : xQ pF d k o nL ini gg (np, lv, .long v :: st, h)) : xQ pF d k o nL ini gg (pc, lv, st, h) := by
  refine xQ_p hl rfl (fun len h1 h2 => ?_) kk
  obtain rfl : len = 1 := by simp only [xlen] at h2; omega
  subst h1
  subst hv
  simp [xpure]
theorem eQ_null  (hl : xAt k pc (.aconst_null) np) (kk : xQ pF d k o nL ini gg (np, lv, .null :: st, h)) : xQ pF d k o nL ini gg (pc, lv, st, h) := by
  refine xQ_p hl rfl (fun len h1 h2 => ?_) kk
  obtain rfl : len = 1 := by simp only [xlen] at h2; omega
  subst h1
  simp [xpure]
theorem eQ_ldc {i : Nat} {v : Int32} (hl : xAt k pc (.ldc i) np) (hv : xcR o i = some v) (kk : xQ pF d k o nL ini gg (np, lv, .int v :: st, h)) : xQ pF d k o nL ini gg (pc, lv, st, h) := by
  refine xQ_p hl rfl (fun len h1 h2 => ?_) kk
  obtain rfl : len = 2 := by simp only [xlen] at h2; omega
  subst h1
  simp [xpure, hv]
theorem eQ_ldc_w {i : Nat} {v : Int32} (hl : xAt k pc (.ldc_w i) np) (hv : xcR o i = some v) (kk : xQ pF d k o nL ini gg (np, lv, .int v :: st, h)) : xQ pF d k o nL ini gg (pc, lv, st, h) := by
  refine xQ_p hl rfl (fun len h1 h2 => ?_) kk
  obtain rfl : len = 3 := by simp only [xlen] at h2; omega
  subst h1
  simp [xpure, hv]
theorem eQ_ldc2_w {i : Nat} {v : Int64} (hl : xAt k pc (.ldc2_w i) np) (hv : xlR o i = some v) (kk : xQ pF d k o nL ini gg (np, lv, .long v :: st, h)) : xQ pF d k o nL ini gg (pc, lv, st, h) := by
  refine xQ_p hl rfl (fun len h1 h2 => ?_) kk
  obtain rfl : len = 3 := by simp only [xlen] at h2; omega
  subst h1
  simp [xpure, hv]
theorem eQ_iload_n {j : Fin 4} {x : Int32} (hl : xAt k pc (.iload_n j) np) (hg : xg lv j = some (.int x)) (kk : xQ pF d k o nL ini gg (np, lv, .int x :: st, h)) : xQ pF d k o nL ini gg (pc, lv, st, h) := by
  refine xQ_p hl rfl (fun len h1 h2 => ?_) kk
  obtain rfl : len = 1 := by simp only [xlen] at h2; omega
  subst h1
  simp [xpure, xldI, hg]
theorem eQ_iload {j : Nat} {x : Int32} (hl : xAt k pc (.iload j) np) (hg : xg lv j = some (.int x)) (kk : xQ pF d k o nL ini gg (np, lv, .int x :: st, h)) : xQ pF d k o nL ini gg (pc, lv, st, h) := by
  refine xQ_p hl rfl (fun len h1 h2 => ?_) kk
  obtain rfl : len = 2 := by simp only [xlen] at h2; omega
  subst h1
  simp [xpure, xldI, hg]
theorem eQ_lload_n {j : Fin 4} {x : Int64} (hl : xAt k pc (.lload_n j) np) (hg : xg lv j = some (.long x)) (kk : xQ pF d k o nL ini gg (np, lv, .long x :: st, h)) : xQ pF d k o nL ini gg (pc, lv, st, h) := by
  refine xQ_p hl rfl (fun len h1 h2 => ?_) kk
  obtain rfl : len = 1 := by simp only [xlen] at h2; omega
  subst h1
  simp [xpure, xldL, hg]
theorem eQ_lload {j : Nat} {x : Int64} (hl : xAt k pc (.lload j) np) (hg : xg lv j = some (.long x)) (kk : xQ pF d k o nL ini gg (np, lv, .long x :: st, h)) : xQ pF d k o nL ini gg (pc, lv, st, h) := by
  refine xQ_p hl rfl (fun len h1 h2 => ?_) kk
  obtain rfl : len = 2 := by simp only [xlen] at h2; omega
  subst h1
  simp [xpure, xldL, hg]
theorem eQ_aload_n {j : Fin 4} {x : Nat} (hl : xAt k pc (.aload_n j) np) (hg : xg lv j = some (.ref x)) (kk : xQ pF d k o nL ini gg (np, lv, .ref x :: st, h)) : xQ pF d k o nL ini gg (pc, lv, st, h) := by
  refine xQ_p hl rfl (fun len h1 h2 => ?_) kk
  obtain rfl : len = 1 := by simp only [xlen] at h2; omega
  subst h1
  simp [xpure, xldA, hg]
theorem eQ_aload {j : Nat} {x : Nat} (hl : xAt k pc (.aload j) np) (hg : xg lv j = some (.ref x)) (kk : xQ pF d k o nL ini gg (np, lv, .ref x :: st, h)) : xQ pF d k o nL ini gg (pc, lv, st, h) := by
  refine xQ_p hl rfl (fun len h1 h2 => ?_) kk
  obtain rfl : len = 2 := by simp only [xlen] at h2; omega
  subst h1
  simp [xpure, xldA, hg]
theorem eQ_aload_nN {j : Fin 4} (hl : xAt k pc (.aload_n j) np) (hg : xg lv j = some .null) (kk : xQ pF d k o nL ini gg (np, lv, .null :: st, h)) : xQ pF d k o nL ini gg (pc, lv, st, h) := by
  refine xQ_p hl rfl (fun len h1 h2 => ?_) kk
  obtain rfl : len = 1 := by simp only [xlen] at h2; omega
  subst h1
  simp [xpure, xldA, hg]
theorem eQ_istore_n {j : Fin 4} {x : Int32} (hl : xAt k pc (.istore_n j) np) (hn : (j : Nat) < nL) (hs : xs1 j (.int x) lv = lv') (kk : xQ pF d k o nL ini gg (np, lv', st, h)) : xQ pF d k o nL ini gg (pc, lv, .int x :: st, h) := by
  refine xQ_p hl rfl (fun len h1 h2 => ?_) kk
  obtain rfl : len = 1 := by simp only [xlen] at h2; omega
  subst h1
  simp [xpure, xstI, hn, hs]
theorem eQ_istore {j : Nat} {x : Int32} (hl : xAt k pc (.istore j) np) (hn : (j : Nat) < nL) (hs : xs1 j (.int x) lv = lv') (kk : xQ pF d k o nL ini gg (np, lv', st, h)) : xQ pF d k o nL ini gg (pc, lv, .int x :: st, h) := by
  refine xQ_p hl rfl (fun len h1 h2 => ?_) kk
  obtain rfl : len = 2 := by simp only [xlen] at h2; omega
  subst h1
  simp [xpure, xstI, hn, hs]
theorem eQ_lstore_n {j : Fin 4} {x : Int64} (hl : xAt k pc (.lstore_n j) np) (hn : (j : Nat) + 1 < nL) (hs : xs2 j (.long x) lv = lv') (kk : xQ pF d k o nL ini gg (np, lv', st, h)) : xQ pF d k o nL ini gg (pc, lv, .long x :: st, h) := by
  refine xQ_p hl rfl (fun len h1 h2 => ?_) kk
  obtain rfl : len = 1 := by simp only [xlen] at h2; omega
  subst h1
  simp [xpure, xstL, hn, hs]
theorem eQ_lstore {j : Nat} {x : Int64} (hl : xAt k pc (.lstore j) np) (hn : (j : Nat) + 1 < nL) (hs : xs2 j (.long x) lv = lv') (kk : xQ pF d k o nL ini gg (np, lv', st, h)) : xQ pF d k o nL ini gg (pc, lv, .long x :: st, h) := by
  refine xQ_p hl rfl (fun len h1 h2 => ?_) kk
  obtain rfl : len = 2 := by simp only [xlen] at h2; omega
  subst h1
  simp [xpure, xstL, hn, hs]
theorem eQ_astore_n {j : Fin 4} {x : Nat} (hl : xAt k pc (.astore_n j) np) (hn : (j : Nat) < nL) (hs : xs1 j (.ref x) lv = lv') (kk : xQ pF d k o nL ini gg (np, lv', st, h)) : xQ pF d k o nL ini gg (pc, lv, .ref x :: st, h) := by
  refine xQ_p hl rfl (fun len h1 h2 => ?_) kk
  obtain rfl : len = 1 := by simp only [xlen] at h2; omega
  subst h1
  simp [xpure, xstA, hn, hs]
theorem eQ_astore {j : Nat} {x : Nat} (hl : xAt k pc (.astore j) np) (hn : (j : Nat) < nL) (hs : xs1 j (.ref x) lv = lv') (kk : xQ pF d k o nL ini gg (np, lv', st, h)) : xQ pF d k o nL ini gg (pc, lv, .ref x :: st, h) := by
  refine xQ_p hl rfl (fun len h1 h2 => ?_) kk
  obtain rfl : len = 2 := by simp only [xlen] at h2; omega
  subst h1
  simp [xpure, xstA, hn, hs]
theorem eQ_iinc {j : Nat} {n : Int} {x v : Int32} (hl : xAt k pc (.iinc j n) np) (hg : xg lv j = some (.int x)) (hv : x + Int32.ofInt n = v) (hn : j < nL) (hs : xs1 j (.int v) lv = lv') (kk : xQ pF d k o nL ini gg (np, lv', st, h)) : xQ pF d k o nL ini gg (pc, lv, st, h) := by
  refine xQ_p hl rfl (fun len h1 h2 => ?_) kk
  obtain rfl : len = 3 := by simp only [xlen] at h2; omega
  subst h1
  simp [xpure, hg, hn, hv, hs]
theorem eQ_dup {v : Value} (hl : xAt k pc (.dup) np) (hv : v.category = 1) (kk : xQ pF d k o nL ini gg (np, lv, v :: v :: st, h)) : xQ pF d k o nL ini gg (pc, lv, v :: st, h) := by
  refine xQ_p hl rfl (fun len h1 h2 => ?_) kk
  obtain rfl : len = 1 := by simp only [xlen] at h2; omega
  subst h1
  simp [xpure, hv]
theorem eQ_pop {v : Value} (hl : xAt k pc (.pop) np) (hv : v.category = 1) (kk : xQ pF d k o nL ini gg (np, lv, st, h)) : xQ pF d k o nL ini gg (pc, lv, v :: st, h) := by
  refine xQ_p hl rfl (fun len h1 h2 => ?_) kk
  obtain rfl : len = 1 := by simp only [xlen] at h2; omega
  subst h1
  simp [xpure, hv]
theorem eQ_dup_x1 {v w : Value} (hl : xAt k pc (.dup_x1) np) (hv : v.category = 1) (hw : w.category = 1) (kk : xQ pF d k o nL ini gg (np, lv, v :: w :: v :: st, h)) : xQ pF d k o nL ini gg (pc, lv, v :: w :: st, h) := by
  refine xQ_p hl rfl (fun len h1 h2 => ?_) kk
  obtain rfl : len = 1 := by simp only [xlen] at h2; omega
  subst h1
  simp [xpure, hv, hw]
theorem eQ_dup2 {v w : Value} (hl : xAt k pc (.dup2) np) (hv : v.category = 1) (hw : w.category = 1) (kk : xQ pF d k o nL ini gg (np, lv, v :: w :: v :: w :: st, h)) : xQ pF d k o nL ini gg (pc, lv, v :: w :: st, h) := by
  refine xQ_p hl rfl (fun len h1 h2 => ?_) kk
  obtain rfl : len = 1 := by simp only [xlen] at h2; omega
  subst h1
  simp [xpure, hv, hw]
theorem eQ_iadd {x y : Int32} (hl : xAt k pc (.iadd) np) (kk : xQ pF d k o nL ini gg (np, lv, .int (x + y) :: st, h)) : xQ pF d k o nL ini gg (pc, lv, .int y :: .int x :: st, h) := by
  refine xQ_p hl rfl (fun len h1 h2 => ?_) kk
  obtain rfl : len = 1 := by simp only [xlen] at h2; omega
  subst h1
  simp [xpure, xI2]
theorem eQ_isub {x y : Int32} (hl : xAt k pc (.isub) np) (kk : xQ pF d k o nL ini gg (np, lv, .int (x - y) :: st, h)) : xQ pF d k o nL ini gg (pc, lv, .int y :: .int x :: st, h) := by
  refine xQ_p hl rfl (fun len h1 h2 => ?_) kk
  obtain rfl : len = 1 := by simp only [xlen] at h2; omega
  subst h1
  simp [xpure, xI2]
theorem eQ_imul {x y : Int32} (hl : xAt k pc (.imul) np) (kk : xQ pF d k o nL ini gg (np, lv, .int (x * y) :: st, h)) : xQ pF d k o nL ini gg (pc, lv, .int y :: .int x :: st, h) := by
  refine xQ_p hl rfl (fun len h1 h2 => ?_) kk
  obtain rfl : len = 1 := by simp only [xlen] at h2; omega
  subst h1
  simp [xpure, xI2]
theorem eQ_iand {x y : Int32} (hl : xAt k pc (.iand) np) (kk : xQ pF d k o nL ini gg (np, lv, .int (x &&& y) :: st, h)) : xQ pF d k o nL ini gg (pc, lv, .int y :: .int x :: st, h) := by
  refine xQ_p hl rfl (fun len h1 h2 => ?_) kk
  obtain rfl : len = 1 := by simp only [xlen] at h2; omega
  subst h1
  simp [xpure, xI2]
theorem eQ_ior {x y : Int32} (hl : xAt k pc (.ior) np) (kk : xQ pF d k o nL ini gg (np, lv, .int (x ||| y) :: st, h)) : xQ pF d k o nL ini gg (pc, lv, .int y :: .int x :: st, h) := by
  refine xQ_p hl rfl (fun len h1 h2 => ?_) kk
  obtain rfl : len = 1 := by simp only [xlen] at h2; omega
  subst h1
  simp [xpure, xI2]
theorem eQ_ixor {x y : Int32} (hl : xAt k pc (.ixor) np) (kk : xQ pF d k o nL ini gg (np, lv, .int (x ^^^ y) :: st, h)) : xQ pF d k o nL ini gg (pc, lv, .int y :: .int x :: st, h) := by
  refine xQ_p hl rfl (fun len h1 h2 => ?_) kk
  obtain rfl : len = 1 := by simp only [xlen] at h2; omega
  subst h1
  simp [xpure, xI2]
theorem eQ_ishl {x y : Int32} (hl : xAt k pc (.ishl) np) (kk : xQ pF d k o nL ini gg (np, lv, .int (x <<< (y &&& 31)) :: st, h)) : xQ pF d k o nL ini gg (pc, lv, .int y :: .int x :: st, h) := by
  refine xQ_p hl rfl (fun len h1 h2 => ?_) kk
  obtain rfl : len = 1 := by simp only [xlen] at h2; omega
  subst h1
  simp [xpure, xI2]
theorem eQ_ishr {x y : Int32} (hl : xAt k pc (.ishr) np) (kk : xQ pF d k o nL ini gg (np, lv, .int (x >>> (y &&& 31)) :: st, h)) : xQ pF d k o nL ini gg (pc, lv, .int y :: .int x :: st, h) := by
  refine xQ_p hl rfl (fun len h1 h2 => ?_) kk
  obtain rfl : len = 1 := by simp only [xlen] at h2; omega
  subst h1
  simp [xpure, xI2]
theorem eQ_iushr {x y : Int32} (hl : xAt k pc (.iushr) np) (kk : xQ pF d k o nL ini gg (np, lv, .int ((x.toUInt32 >>> (y.toUInt32 &&& Int32.toUInt32 31)).toInt32) :: st, h)) : xQ pF d k o nL ini gg (pc, lv, .int y :: .int x :: st, h) := by
  refine xQ_p hl rfl (fun len h1 h2 => ?_) kk
  obtain rfl : len = 1 := by simp only [xlen] at h2; omega
  subst h1
  simp [xpure, xI2]
theorem eQ_idiv {x y : Int32} (hl : xAt k pc (.idiv) np) (hy : ¬ y = 0) (kk : xQ pF d k o nL ini gg (np, lv, .int (x / y) :: st, h)) : xQ pF d k o nL ini gg (pc, lv, .int y :: .int x :: st, h) := by
  refine xQ_p hl rfl (fun len h1 h2 => ?_) kk
  obtain rfl : len = 1 := by simp only [xlen] at h2; omega
  subst h1
  simp [xpure, xI2z, hy]
theorem eQ_irem {x y : Int32} (hl : xAt k pc (.irem) np) (hy : ¬ y = 0) (kk : xQ pF d k o nL ini gg (np, lv, .int (x - x / y * y) :: st, h)) : xQ pF d k o nL ini gg (pc, lv, .int y :: .int x :: st, h) := by
  refine xQ_p hl rfl (fun len h1 h2 => ?_) kk
  obtain rfl : len = 1 := by simp only [xlen] at h2; omega
  subst h1
  simp [xpure, xI2z, hy]
theorem eQ_ineg {x : Int32} (hl : xAt k pc (.ineg) np) (kk : xQ pF d k o nL ini gg (np, lv, .int (-x) :: st, h)) : xQ pF d k o nL ini gg (pc, lv, .int x :: st, h) := by
  refine xQ_p hl rfl (fun len h1 h2 => ?_) kk
  obtain rfl : len = 1 := by simp only [xlen] at h2; omega
  subst h1
  simp [xpure, xI1]
theorem eQ_i2b {x : Int32} (hl : xAt k pc (.i2b) np) (kk : xQ pF d k o nL ini gg (np, lv, .int x.toInt8.toInt32 :: st, h)) : xQ pF d k o nL ini gg (pc, lv, .int x :: st, h) := by
  refine xQ_p hl rfl (fun len h1 h2 => ?_) kk
  obtain rfl : len = 1 := by simp only [xlen] at h2; omega
  subst h1
  simp [xpure, xI1]
theorem eQ_ladd {x y : Int64} (hl : xAt k pc (.ladd) np) (kk : xQ pF d k o nL ini gg (np, lv, .long (x + y) :: st, h)) : xQ pF d k o nL ini gg (pc, lv, .long y :: .long x :: st, h) := by
  refine xQ_p hl rfl (fun len h1 h2 => ?_) kk
  obtain rfl : len = 1 := by simp only [xlen] at h2; omega
  subst h1
  simp [xpure, xJ2]
theorem eQ_lmul {x y : Int64} (hl : xAt k pc (.lmul) np) (kk : xQ pF d k o nL ini gg (np, lv, .long (x * y) :: st, h)) : xQ pF d k o nL ini gg (pc, lv, .long y :: .long x :: st, h) := by
  refine xQ_p hl rfl (fun len h1 h2 => ?_) kk
  obtain rfl : len = 1 := by simp only [xlen] at h2; omega
  subst h1
  simp [xpure, xJ2]
theorem eQ_land {x y : Int64} (hl : xAt k pc (.land) np) (kk : xQ pF d k o nL ini gg (np, lv, .long (x &&& y) :: st, h)) : xQ pF d k o nL ini gg (pc, lv, .long y :: .long x :: st, h) := by
  refine xQ_p hl rfl (fun len h1 h2 => ?_) kk
  obtain rfl : len = 1 := by simp only [xlen] at h2; omega
  subst h1
  simp [xpure, xJ2]
theorem eQ_lor {x y : Int64} (hl : xAt k pc (.lor) np) (kk : xQ pF d k o nL ini gg (np, lv, .long (x ||| y) :: st, h)) : xQ pF d k o nL ini gg (pc, lv, .long y :: .long x :: st, h) := by
  refine xQ_p hl rfl (fun len h1 h2 => ?_) kk
  obtain rfl : len = 1 := by simp only [xlen] at h2; omega
  subst h1
  simp [xpure, xJ2]
theorem eQ_lxor {x y : Int64} (hl : xAt k pc (.lxor) np) (kk : xQ pF d k o nL ini gg (np, lv, .long (x ^^^ y) :: st, h)) : xQ pF d k o nL ini gg (pc, lv, .long y :: .long x :: st, h) := by
  refine xQ_p hl rfl (fun len h1 h2 => ?_) kk
  obtain rfl : len = 1 := by simp only [xlen] at h2; omega
  subst h1
  simp [xpure, xJ2]
theorem eQ_lrem {x y : Int64} (hl : xAt k pc (.lrem) np) (hy : ¬ y = 0) (kk : xQ pF d k o nL ini gg (np, lv, .long (x - x / y * y) :: st, h)) : xQ pF d k o nL ini gg (pc, lv, .long y :: .long x :: st, h) := by
  refine xQ_p hl rfl (fun len h1 h2 => ?_) kk
  obtain rfl : len = 1 := by simp only [xlen] at h2; omega
  subst h1
  simp [xpure, xJ2z, hy]
theorem eQ_lshl {x : Int64} {y : Int32} (hl : xAt k pc (.lshl) np) (kk : xQ pF d k o nL ini gg (np, lv, .long (x <<< (y.toInt64 &&& 63)) :: st, h)) : xQ pF d k o nL ini gg (pc, lv, .int y :: .long x :: st, h) := by
  refine xQ_p hl rfl (fun len h1 h2 => ?_) kk
  obtain rfl : len = 1 := by simp only [xlen] at h2; omega
  subst h1
  simp [xpure, xJI]
theorem eQ_lshr {x : Int64} {y : Int32} (hl : xAt k pc (.lshr) np) (kk : xQ pF d k o nL ini gg (np, lv, .long (x >>> (y.toInt64 &&& 63)) :: st, h)) : xQ pF d k o nL ini gg (pc, lv, .int y :: .long x :: st, h) := by
  refine xQ_p hl rfl (fun len h1 h2 => ?_) kk
  obtain rfl : len = 1 := by simp only [xlen] at h2; omega
  subst h1
  simp [xpure, xJI]
theorem eQ_lushr {x : Int64} {y : Int32} (hl : xAt k pc (.lushr) np) (kk : xQ pF d k o nL ini gg (np, lv, .long ((x.toUInt64 >>> (y.toInt64.toUInt64 &&& Int64.toUInt64 63)).toInt64) :: st, h)) : xQ pF d k o nL ini gg (pc, lv, .int y :: .long x :: st, h) := by
  refine xQ_p hl rfl (fun len h1 h2 => ?_) kk
  obtain rfl : len = 1 := by simp only [xlen] at h2; omega
  subst h1
  simp [xpure, xJI]
theorem eQ_i2l {x : Int32} (hl : xAt k pc (.i2l) np) (kk : xQ pF d k o nL ini gg (np, lv, .long x.toInt64 :: st, h)) : xQ pF d k o nL ini gg (pc, lv, .int x :: st, h) := by
  refine xQ_p hl rfl (fun len h1 h2 => ?_) kk
  obtain rfl : len = 1 := by simp only [xlen] at h2; omega
  subst h1
  simp [xpure]
theorem eQ_l2i {x : Int64} (hl : xAt k pc (.l2i) np) (kk : xQ pF d k o nL ini gg (np, lv, .int x.toInt32 :: st, h)) : xQ pF d k o nL ini gg (pc, lv, .long x :: st, h) := by
  refine xQ_p hl rfl (fun len h1 h2 => ?_) kk
  obtain rfl : len = 1 := by simp only [xlen] at h2; omega
  subst h1
  simp [xpure]
theorem eQ_lcmp {x y : Int64} (hl : xAt k pc (.lcmp) np) (kk : xQ pF d k o nL ini gg (np, lv, .int (lg_cmp x y) :: st, h)) : xQ pF d k o nL ini gg (pc, lv, .long y :: .long x :: st, h) := by
  refine xQ_p hl rfl (fun len h1 h2 => ?_) kk
  obtain rfl : len = 1 := by simp only [xlen] at h2; omega
  subst h1
  simp [xpure]
theorem eQ_goto {off : Int} {t : Nat} (hl : xAt k pc (.goto off) np) (ht : (pc : Int) + off = (t : Int)) (kk : xQ pF d k o nL ini gg (t, lv, st, h)) : xQ pF d k o nL ini gg (pc, lv, st, h) := by
  obtain ⟨h1, h2⟩ := xj_of ht
  exact xQ_p hl rfl (fun len _ _ => by simp only [xpure, xjp, if_pos h1, h2]) kk
theorem eQ_if {c : Jvm.ClassFile.Cond} {off : Int} {t : Nat} {x : Int32} (hl : xAt k pc (.ifCond c off) np) (ht : (pc : Int) + off = (t : Int)) (kt : xc0 c x = true → xQ pF d k o nL ini gg (t, lv, st, h)) (kf : ¬ xc0 c x = true → xQ pF d k o nL ini gg (np, lv, st, h)) : xQ pF d k o nL ini gg (pc, lv, .int x :: st, h) := by
  obtain ⟨h1, h2⟩ := xj_of ht
  by_cases q : xc0 c x = true
  · exact xQ_p hl rfl (fun len _ _ => by simp only [xpure, xbr, if_pos h1, if_pos q, h2]) (kt q)
  · refine xQ_p hl rfl (fun len e1 e2 => ?_) (kf q)
    obtain rfl : len = 3 := by simp only [xlen] at e2; omega
    simp only [xpure, xbr, if_pos h1, if_neg q, e1]
theorem eQ_icmp {c : Jvm.ClassFile.Cond} {off : Int} {t : Nat} {x y : Int32} (hl : xAt k pc (.if_icmp c off) np) (ht : (pc : Int) + off = (t : Int)) (kt : xc2 c x y = true → xQ pF d k o nL ini gg (t, lv, st, h)) (kf : ¬ xc2 c x y = true → xQ pF d k o nL ini gg (np, lv, st, h)) : xQ pF d k o nL ini gg (pc, lv, .int y :: .int x :: st, h) := by
  obtain ⟨h1, h2⟩ := xj_of ht
  by_cases q : xc2 c x y = true
  · exact xQ_p hl rfl (fun len _ _ => by simp only [xpure, xbr, if_pos h1, if_pos q, h2]) (kt q)
  · refine xQ_p hl rfl (fun len e1 e2 => ?_) (kf q)
    obtain rfl : len = 3 := by simp only [xlen] at e2; omega
    simp only [xpure, xbr, if_pos h1, if_neg q, e1]
theorem eQ_tsw {dd lo hi : Int} {offs : Array Int} {x : Int32} {off : Int} {t : Nat} (hl : xAt k pc (.tableswitch dd lo hi offs) np) (hx : ¬ (x.toInt < lo ∨ hi < x.toInt)) (ho : offs[(x.toInt - lo).toNat]? = some off) (ht : (pc : Int) + off = (t : Int)) (kk : xQ pF d k o nL ini gg (t, lv, st, h)) : xQ pF d k o nL ini gg (pc, lv, .int x :: st, h) := by
  obtain ⟨h1, h2⟩ := xj_of ht
  exact xQ_p hl rfl (fun len _ _ => by simp only [xpure, xjp, if_neg hx, ho, if_pos h1, h2]) kk
theorem eQ_tswD {dd lo hi : Int} {offs : Array Int} {x : Int32} {t : Nat} (hl : xAt k pc (.tableswitch dd lo hi offs) np) (hx : x.toInt < lo ∨ hi < x.toInt) (ht : (pc : Int) + dd = (t : Int)) (kk : xQ pF d k o nL ini gg (t, lv, st, h)) : xQ pF d k o nL ini gg (pc, lv, .int x :: st, h) := by
  obtain ⟨h1, h2⟩ := xj_of ht
  exact xQ_p hl rfl (fun len _ _ => by simp only [xpure, xjp, if_pos hx, if_pos h1, h2]) kk
theorem eQ_stI {j : Nat} {x : Int32} {i : Instr} (hl : xAt k pc i np) (hi : i = .istore j ∨ ∃ q : Fin 4, i = .istore_n q ∧ (q : Nat) = j) (hn : j < nL) (kk : ∀ lv', xg lv' j = some (.int x) → xKeep j lv lv' → xQ pF d k o nL ini gg (np, lv', st, h)) : xQ pF d k o nL ini gg (pc, lv, .int x :: st, h) := by
  have kq := kk _ xs1_keep.1 xs1_keep.2
  rcases hi with rfl | ⟨q, rfl, rfl⟩
  · exact eQ_istore hl hn rfl kq
  · exact eQ_istore_n hl hn rfl kq
theorem eQ_inc {j : Nat} {n : Int} {x v : Int32} (hl : xAt k pc (.iinc j n) np) (hg : xg lv j = some (.int x)) (hv : x + Int32.ofInt n = v) (hn : j < nL) (kk : ∀ lv', xg lv' j = some (.int v) → xKeep j lv lv' → xQ pF d k o nL ini gg (np, lv', st, h)) : xQ pF d k o nL ini gg (pc, lv, st, h) :=
  eQ_iinc hl hg hv hn rfl (kk _ xs1_keep.1 xs1_keep.2)
theorem eQ_stL {j : Nat} {x : Int64} {i : Instr} (hl : xAt k pc i np) (hi : i = .lstore j ∨ ∃ q : Fin 4, i = .lstore_n q ∧ (q : Nat) = j) (hn : j + 1 < nL) (kk : ∀ lv', xg lv' j = some (.long x) → (∀ (i : Nat) (w : Value), i ≠ j → i ≠ j + 1 → (i + 1 = j → w.category = 1) → xg lv i = some w → xg lv' i = some w) → xQ pF d k o nL ini gg (np, lv', st, h)) : xQ pF d k o nL ini gg (pc, lv, .long x :: st, h) := by
  have kq := kk _ xs2_keep.1 xs2_keep.2
  rcases hi with rfl | ⟨q, rfl, rfl⟩
  · exact eQ_lstore hl hn rfl kq
  · exact eQ_lstore_n hl hn rfl kq
theorem eQ_virt {idx y n : Nat} {as : List Value} {b : Nat} {r : Option Value} {h' : xH} {st0 : List Value} (hl : xAt k pc (.invokevirtual idx) np) (hy : xmR o idx = some y) (hn : xnargs y = n) (hst : st0 = as.reverse ++ .ref b :: st) (hlen : as.length = n) (hc : xcat st ≤ 8)
    (hw : xSe.contains y = true ∧ xIn.contains y = true) (hb : (xMn y).cls = (xCl ((h.1 b).1 - 1)).1 ∧ 0 < (h.1 b).1 ∧ (h.1 b).1 ≤ 17) (hcall : xCo pF d y (.ref b :: as) h r h') (kk : xQ pF d k o nL ini gg (np, lv, r.toList ++ st, h')) : xQ pF d k o nL ini gg (pc, lv, st0, h) := by
  obtain ⟨len, h1, h2, h3⟩ := hl
  obtain rfl : len = 3 := by simp only [xlen] at h2; omega
  subst h3
  refine xQ_c h1 rfl ?_ kk
  obtain ⟨N, hN⟩ := hcall
  refine ⟨N, fun F hF => ?_⟩
  have e1 : st0.drop n = .ref b :: st := by rw [hst, List.drop_left' (by rw [List.length_reverse]; exact hlen)]
  have e2 : (st0.take n).reverse = as := by rw [hst, List.take_left' (by rw [List.length_reverse]; exact hlen), List.reverse_reverse]
  have e3 : n ≤ st0.length := by rw [hst, List.length_append, List.length_reverse, hlen]; omega
  simp only [xop, if_pos h2, xpure, xmem, hy, xvirt, hn, e1, e2, e3, hw.1, hw.2, hb.1, hb.2.1, hb.2.2, and_self, if_true, xcall1, if_pos hc, hN F hF]
theorem eQ_stat {idx y n : Nat} {as : List Value} {r : Option Value} {h' : xH} {st0 : List Value} (hl : xAt k pc (.invokestatic idx) np) (hy : xmR o idx = some y) (hn : xnargs y = n) (hst : st0 = as.reverse ++ st) (hlen : as.length = n) (hc : xcat st ≤ 8) (hm : ¬ y = xMax ∧ ¬ y = xMin)
    (hw : xSt.contains y = true) (hcall : xCo pF d y as h r h') (kk : xQ pF d k o nL ini gg (np, lv, r.toList ++ st, h')) : xQ pF d k o nL ini gg (pc, lv, st0, h) := by
  obtain ⟨len, h1, h2, h3⟩ := hl
  obtain rfl : len = 3 := by simp only [xlen] at h2; omega
  subst h3
  refine xQ_c h1 rfl ?_ kk
  obtain ⟨N, hN⟩ := hcall
  refine ⟨N, fun F hF => ?_⟩
  have e1 : st0.drop n = st := by rw [hst, List.drop_left' (by rw [List.length_reverse]; exact hlen)]
  have e2 : (st0.take n).reverse = as := by rw [hst, List.take_left' (by rw [List.length_reverse]; exact hlen), List.reverse_reverse]
  have e3 : n ≤ st0.length := by rw [hst, List.length_append, List.length_reverse, hlen]; omega
  simp only [xop, if_pos h2, xpure, xmem, hy, if_neg hm.1, if_neg hm.2, xstat, hn, e1, e2, e3, hw, and_self, if_true, xcall1, if_pos hc, hN F hF]
theorem eQ_alen {a : Nat} (hl : xAt k pc .arraylength np) (ht : 20 ≤ (h.1 a).1) (kk : xQ pF d k o nL ini gg (np, lv, .int (Int32.ofNat (h.1 a).2.1) :: st, h)) : xQ pF d k o nL ini gg (pc, lv, .ref a :: st, h) := by
  refine xQ_p hl rfl (fun len e1 e2 => ?_) kk
  obtain rfl : len = 1 := by simp only [xlen] at e2; omega
  subst e1
  simp only [xpure, if_pos ht]
theorem eQ_newa {t : ArrayType} {j : Nat} {n : Int32} {h' : xH} (hl : xAt k pc (.newarray t) np) (hj : xaty t = some j) (hn : ¬ n < 0 ∧ n.toNatClampNeg ≤ 1000000) (he : h' = (xset h.1 h.2.1 (20 + j, n.toNatClampNeg, fun _ => defaultValue (newarray.typeOf t)), h.2.1 + 1, h.2.2 + n.toNatClampNeg)) (kk : xQ pF d k o nL ini gg (np, lv, .ref h.2.1 :: st, h')) : xQ pF d k o nL ini gg (pc, lv, .int n :: st, h) := by
  subst he
  refine xQ_m hl rfl (fun len => by simp [xpure]) ?_ kk
  obtain ⟨len, -, h2, h3⟩ := hl
  obtain rfl : len = 2 := by simp only [xlen] at h2; omega
  subst h3
  simp [xmem, hj, hn.1, hn.2]
theorem eQ_stA {j : Nat} {x : Nat} {i : Instr} (hl : xAt k pc i np) (hi : i = .astore j ∨ ∃ q : Fin 4, i = .astore_n q ∧ (q : Nat) = j) (hn : j < nL) (kk : ∀ lv', xg lv' j = some (.ref x) → xKeep j lv lv' → xQ pF d k o nL ini gg (np, lv', st, h)) : xQ pF d k o nL ini gg (pc, lv, .ref x :: st, h) := by
  have kq := kk _ xs1_keep.1 xs1_keep.2
  rcases hi with rfl | ⟨q, rfl, rfl⟩
  · exact eQ_astore hl hn rfl kq
  · exact eQ_astore_n hl hn rfl kq
theorem eQ_init {idx y n b : Nat} {as : List Value} {h' : xH} {st0 : List Value} (hl : xAt k pc (.invokespecial idx) np) (hy : xmR o idx = some y ∨ (xmR o idx = none ∧ xnR o idx = some y)) (hn : xnargs y = n) (hst : st0 = as.reverse ++ .ref b :: st) (hlen : as.length = n) (hc : xcat st ≤ 8) (hw : xIn.contains y = true ∧ (xMn y).name = "<init>" ∧ xnoret y = true) (hcall : xCo pF d y (.ref b :: as) h none h') (kk : xQ pF d k o nL ini gg (np, lv, st, h')) : xQ pF d k o nL ini gg (pc, lv, st0, h) := by
  obtain ⟨len, h1, h2, h3⟩ := hl
  obtain rfl : len = 3 := by simp only [xlen] at h2; omega
  subst h3
  refine xQ_c h1 rfl ?_ kk
  obtain ⟨N, hN⟩ := hcall
  refine ⟨N, fun F hF => ?_⟩
  have e1 : st0.drop n = .ref b :: st := by rw [hst, List.drop_left' (by rw [List.length_reverse]; exact hlen)]
  have e2 : (st0.take n).reverse = as := by rw [hst, List.take_left' (by rw [List.length_reverse]; exact hlen), List.reverse_reverse]
  have e3 : n ≤ st0.length := by rw [hst, List.length_append, List.length_reverse, hlen]; omega
  rcases hy with hy | ⟨hy1, hy2⟩
  · simp only [xop, if_pos h2, xpure, xmem, hy, xini, hn, e1, e2, e3, hw.1, hw.2.1, hw.2.2, and_self, if_true, xcall1, if_pos hc, hN F hF, Option.toList, List.nil_append]
  · simp only [xop, if_pos h2, xpure, xmem, hy1, hy2, xini, hn, e1, e2, e3, hw.1, hw.2.1, hw.2.2, and_self, if_true, xcall1, if_pos hc, hN F hF, Option.toList, List.nil_append]
theorem eQ_new {idx ci : Nat} {h' : xH} (hl : xAt k pc (.new idx) np) (hx : xkR o idx = some ci) (hi : xIt.contains ci = true) (he : h' = (xset h.1 h.2.1 (ci + 1, (xCl ci).2.2, fun k => match xfty ci k with
        | some ty => defaultValue ty
        | none => .null), h.2.1 + 1, h.2.2 + (xCl ci).2.2)) (kk : xQ pF d k o nL ini gg (np, lv, .ref h.2.1 :: st, h')) : xQ pF d k o nL ini gg (pc, lv, st, h) := by
  subst he
  refine xQ_m hl rfl (fun len => by simp [xpure]) ?_ kk
  obtain ⟨len, -, q2, q3⟩ := hl
  obtain rfl : len = 3 := by simp only [xlen] at q2; omega
  subst q3
  simp only [xmem, hx, hi, if_true]
  rfl
end XQ
