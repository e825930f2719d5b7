/-! the law: rules, what its state is -/
section LR
variable {pF : Nat → List Value → xH → Option (Option Value × xH)} {d : Nat} {k : xK} {o nL : Nat} {ini : Bool} {pc np : Nat} {lv lv' : xL} {st : List Value} {h : xH} {gg : xF}
/-- the script lies at b -/
def lwS (h : xH) (b L : Nat) (xs : Nat → Int32) : Prop := (h.1 b).1 = 99 ∧ (h.1 b).2.1 = L ∧ ∀ j, j < L → (h.1 b).2.2 j = .int (xs j)
/-- the locals -/
def lwG (lv : xL) (b xa ma ao i : Nat) : Prop := xg lv 0 = some (.ref b) ∧ xg lv 1 = some (.ref xa) ∧ xg lv 2 = some (.ref ma) ∧ xg lv 3 = some (.ref ao) ∧ xg lv 4 = some (.int (Int32.ofNat i))
theorem lwG_s {b xa ma ao i j : Nat} {v : Value} (h : lwG lv b xa ma ao i) (hj : 4 < j) : lwG (xs1 j v lv) b xa ma ao i :=
  ⟨xs1_keep.2 0 _ (by omega) (fun _ => rfl) h.1, xs1_keep.2 1 _ (by omega) (fun _ => rfl) h.2.1, xs1_keep.2 2 _ (by omega) (fun _ => rfl) h.2.2.1, xs1_keep.2 3 _ (by omega) (fun _ => rfl) h.2.2.2.1, xs1_keep.2 4 _ (by omega) (fun _ => rfl) h.2.2.2.2⟩
theorem eQ_iald99 {a j : Nat} {i x : Int32} (hl : xAt k pc .iaload np) (ht : (h.1 a).1 = 99) (hi : ¬ (i < 0 ∨ (h.1 a).2.1 ≤ i.toNatClampNeg)) (hj : i.toNatClampNeg = j) (hv : (h.1 a).2.2 j = .int x) (kk : xQ pF d k o nL ini gg (np, lv, .int x :: st, h)) : xQ pF d k o nL ini gg (pc, lv, .int i :: .ref a :: st, h) := by
  subst hj
  refine xQ_p hl rfl (fun len h1 h2 => ?_) kk
  obtain rfl : len = 1 := by simp only [xlen] at h2; omega
  subst h1
  simp [xpure, xald, ht, hi, hv]
theorem eQ_lald {a j : Nat} {i : Int32} {x : Int64} (hl : xAt k pc .laload np) (ht : (h.1 a).1 = 21) (hi : ¬ (i < 0 ∨ (h.1 a).2.1 ≤ i.toNatClampNeg)) (hj : i.toNatClampNeg = j) (hv : (h.1 a).2.2 j = .long x) (kk : xQ pF d k o nL ini gg (np, lv, .long x :: st, h)) : xQ pF d k o nL ini gg (pc, lv, .int i :: .ref a :: st, h) := by
  subst hj
  refine xQ_p hl rfl (fun len h1 h2 => ?_) kk
  obtain rfl : len = 1 := by simp only [xlen] at h2; omega
  subst h1
  simp [xpure, xald, ht, hi, hv]
/-- script[i + n] -/
theorem eQ_sc {b xa ma ao i L p1 p2 p3 p4 : Nat} {n : Nat} {m : Int} {xs : Nat → Int32} (hG : lwG lv b xa ma ao i) (hS : lwS h b L xs) (hi : i + n < L) (hL : L ≤ 3074) (hm : Int32.ofInt m = Int32.ofNat n) (l0 : xAt k pc (.aload_n 0) p1) (l1 : xAt k p1 (.iload 4) p2) (l2 : xAt k p2 (.iconst m) p3) (l3 : xAt k p3 .iadd p4) (l4 : xAt k p4 .iaload np)
    (kk : xQ pF d k o nL ini gg (np, lv, .int (xs (i + n)) :: st, h)) : xQ pF d k o nL ini gg (pc, lv, st, h) := by
  obtain ⟨n1, n2⟩ := y_ofn (n := i + n) (by omega)
  refine eQ_aload_n l0 hG.1 ?_
  refine eQ_iload l1 hG.2.2.2.2 ?_
  refine eQ_iconst l2 hm ?_
  refine eQ_iadd l3 ?_
  rw [y_add]
  exact eQ_iald99 l4 hS.1 (fun z => z.elim n2 (fun z => by rw [n1, hS.2.1] at z; omega)) n1 (hS.2.2 _ hi) kk
theorem l_eq (x : Int32) : xc2 .eq x x = true := decide_eq_true rfl
theorem lg_cmp_self (x : Int64) : lg_cmp x x = 0 := by simp [lg_cmp]
end LR
/-- what is known of the launch, the machine, the law -/
def lwC (p : Program) (l : Launch) (s : State) (m : MethodId) (args : Array Value) (c : Code) (G0 : Heap) (Y : State → Prop) (D : va_G) (dA : Nat → ClassId) (base : Nat) (pF : Nat → List Value → xH → Option (Option Value × xH)) : Prop :=
  p.tables.exec = Jvm.exec ∧ c.code = cL_law ∧ c.maxLocals = 7 ∧ s.vm.findClass "AgreedStoreLaw" = some m.cls ∧ (∀ w ∈ xALL, w.before args s = true) ∧ xKn Y D dA s ∧ ∀ d y as h r h', 4 ≤ d → pF y as h = some (r, h') → xMet l G0 Y D dA base (d + 1) y as h r h'
/-- a place in the law: locals lv, nothing on the stack, the heap h, so much made -/
def lwW (p : Program) (l : Launch) (e : Env) (s : State) (m : MethodId) (args : Array Value) (below : List Frame) (meth : Method) (c : Code) (G0 : Heap) (D : va_G) (dA : Nat → ClassId) (base t0 u0 : Nat) (Q : State → Prop) (pc : Nat) (lv : xL) (st : List Value) (h : xH) : Prop :=
  ∀ (ls : Array Slot) (H : Heap) (locs : List Loc), lv_has ls 7 lv → xRp G0 D dA base h H → (∀ q ∈ locs, base ≤ q.base) → W p l e room_1 s m args below meth c H locs (h.2.1 - t0) (h.2.2 - u0) Q (F0 m pc ls st)
theorem room_c : 600000 ≤ room_1.cells := Nat.le_of_ble_eq_true rfl
theorem room_s : 7200000 ≤ room_1.slots := Nat.le_of_ble_eq_true rfl
def lwR (base t0 u0 : Nat) (h : xH) : Prop := base ≤ h.2.1 ∧ t0 ≤ h.2.1 ∧ u0 ≤ h.2.2 ∧ h.2.1 - t0 ≤ 600000 ∧ h.2.2 - u0 ≤ 7200000
section LW
variable {p : Program} {l : Launch} {e : Env} {s : State} {m : MethodId} {args : Array Value} {below : List Frame} {meth : Method} {c : Code} {G0 : Heap} {Y : State → Prop} {D : va_G} {dA : Nat → ClassId} {base t0 u0 : Nat} {Q : State → Prop} {pF : Nat → List Value → xH → Option (Option Value × xH)}
theorem lwQ1 (C : lwC p l s m args c G0 Y D dA base pF) {k : xK} (hk : xKok cL_law k) {f g : xF} (hq : xQ pF 31 k 17 7 false g f) (hf : lwR base t0 u0 f.2.2.2) (hg : lwR base t0 u0 g.2.2.2) (kk : lwW p l e s m args below meth c G0 D dA base t0 u0 Q g.1 g.2.1 g.2.2.1 g.2.2.2) : lwW p l e s m args below meth c G0 D dA base t0 u0 Q f.1 f.2.1 f.2.2.1 f.2.2.2 := by
  intro ls H locs hl hR hL
  exact x_toQ (d := 31) C.1 C.2.1 C.2.2.1 (o := 17) C.2.2.2.1 C.2.2.2.2.1 C.2.2.2.2.2.1 (by show 32 ≤ 2048; omega) (by show 60 * 32 ≤ 84000; omega) C.2.2.2.2.2.2 hk hq (Nat.le_trans hg.2.2.2.1 room_c) (Nat.le_trans hg.2.2.2.2 room_s) hf.1 hf.2.1 hf.2.2.1 hl hR hL (fun _ ls2 H2 locs2 hl2 hR2 hL2 => kk ls2 H2 locs2 hl2 hR2 hL2)
theorem lw_wr (C : lwC p l s m args c G0 Y D dA base pF) {w : MethodName} {bw : ByteArray} {mlw idx n pc : Nat} {hh : List (Nat × Nat × Nat × Nat)} {as : List Value} {r : Int32} {h h' : xH} (hX : xMetW l G0 Y D dA base 31 w bw mlw hh as h r h')
    (hcw : Jvm.Cond.codeWith w bw mlw (some .int) hh ∈ xALL) (hst : Jvm.Cond.static w ∈ xALL) (hml2 : mlw ≤ 41) (hcls : w.cls = "AgreedStoreLaw") (hlk : Jvm.Cond.methodLink "AgreedStoreLaw" idx w ∈ xALL) (hdesc : (parseMethodDescriptor w.desc).map (fun d => d.parameters.length) = some n) (hn : as.length = n) (hd : decode cL_law pc = .ok (.invokestatic idx, 3)) {lv : xL} {st : List Value} (est : st = as.reverse)
    (hf : lwR base t0 u0 h) (hg : lwR base t0 u0 h') (kk : lwW p l e s m args below meth c G0 D dA base t0 u0 Q (pc + 3) lv [.int r] h') : lwW p l e s m args below meth c G0 D dA base t0 u0 Q pc lv st h := by
  intro ls H locs hl hR hL
  subst est
  have := x_wrC (rest := []) (d := 31) (e := e) (R := room_1) (below := below) (Q := Q) C.1 C.2.1 C.2.2.1 C.2.2.2.1 C.2.2.2.2.1 C.2.2.2.2.2.1 hR hf.1 (by show 32 ≤ 2048; omega) (by show 60 * 32 ≤ 84000; omega) hf.2.1 hf.2.2.1 hL hX hcw hst hml2 hcls hlk hdesc hn hd hl (Nat.le_of_ble_eq_true rfl) (Nat.le_trans hg.2.2.2.1 room_c) (Nat.le_trans hg.2.2.2.2 room_s) (fun H' locs' hR' hL' => kk ls H' locs' hl hR' hL')
  rw [List.append_nil] at this
  exact this
end LW
