/-! lists of letters in the class's memory: what the members of ArrayList do to it, and the rule of calling them -/
def csS (c : CS) (cl i f : Nat) (l : List Nat) (n : Nat) (T : Nat × Nat) : CS := (fun a b x y => if a = cl ∧ b = i ∧ x = f ∧ y = 0 then c.1 cl i f 0 + 1 else c.1 a b x y, c.2.1, (fun a b x => if a = cl ∧ b = i ∧ x = f then n else c.2.2.1 a b x), (fun a b x => if a = cl ∧ b = i ∧ x = f then l else c.2.2.2.1 a b x), c.2.2.2.2.1, T)
/-- the places behind one more: none is full -/
def clcap (n : Nat) : Nat := if n = 0 then 10 else if n / 2 < 1 then n + 1 else n + n / 2
/-- a list with one letter more -/
def clput (c : CS) (cl i f : Nat) (l : List Nat) : Option CS :=
  if 100000 < (cL c cl i f) then none
  else if (cS c cl i f).length < cL c cl i f then some (csS c cl i f l (cL c cl i f) (cT c))
  else some (csS c cl i f l (clcap (cL c cl i f)) ((cT c).1 + 1, (cT c).2 + clcap (cL c cl i f)))
def cladd (c : CS) (cl i f a : Nat) : Option CS := clput c cl i f (cS c cl i f ++ [a])
def clins (c : CS) (cl i f : Nat) (j : Int32) (a : Nat) : Option CS :=
  if j < 0 ∨ (cS c cl i f).length < j.toNatClampNeg then none else clput c cl i f ((cS c cl i f).take j.toNatClampNeg ++ a :: (cS c cl i f).drop j.toNatClampNeg)
def clget (c : CS) (cl i f : Nat) (j : Int32) : Option Nat := if j < 0 then none else (cS c cl i f)[j.toNatClampNeg]?
def clrem (c : CS) (cl i f : Nat) (j : Int32) : Option (Nat × CS) := (clget c cl i f j).bind fun a => some (a, csS c cl i f ((cS c cl i f).eraseIdx j.toNatClampNeg) (cL c cl i f) (cT c))
def clclr (c : CS) (cl i f : Nat) : CS := csS c cl i f [] (cL c cl i f) (cT c)
def clsz (c : CS) (cl i f : Nat) : Int32 := Int32.ofNat (cS c cl i f).length
def clemp (c : CS) (cl i f : Nat) : Int32 := if (cS c cl i f).length = 0 then 1 else 0
/-- what the members of ArrayList promise (to be proved in a later part) -/
def lcSz (pF : Nat → List Value → xH → Option (Option Value × xH)) (d : Nat) : Prop := ∀ E g c cl i f, cK cl f = 5 → cob c cl i → cCo E cQ1 pF d 14 [.ref (car E g cl i f)] (some (.int (clsz c cl i f))) c g c
def lcEmp (pF : Nat → List Value → xH → Option (Option Value × xH)) (d : Nat) : Prop := ∀ E g c cl i f, cK cl f = 5 → cob c cl i → cCo E cQ1 pF d 10 [.ref (car E g cl i f)] (some (.int (clemp c cl i f))) c g c
def lcGet (pF : Nat → List Value → xH → Option (Option Value × xH)) (d : Nat) : Prop := ∀ E g c cl i f j a, cK cl f = 5 → cob c cl i → clget c cl i f j = some a → cCo E cQ1 pF d 6 [.ref (car E g cl i f), .int j] (some (.ref a)) c g c
def lcAdd (E0 : CE) (pF : Nat → List Value → xH → Option (Option Value × xH)) (d : Nat) : Prop := ∀ E g c cl i f a c', E = E0 → cK cl f = 5 → cob c cl i → clt c a = true → cladd c cl i f a = some c' → cCo E (cQx [cl]) pF d 2 [.ref (car E g cl i f), .ref a] (some (.int 1)) c' g c
def lcIns (E0 : CE) (pF : Nat → List Value → xH → Option (Option Value × xH)) (d : Nat) : Prop := ∀ E g c cl i f j a c', E = E0 → cK cl f = 5 → cob c cl i → clt c a = true → clins c cl i f j a = some c' → cCo E (cQx [cl]) pF d 1 [.ref (car E g cl i f), .int j, .ref a] none c' g c
def lcRem (pF : Nat → List Value → xH → Option (Option Value × xH)) (d : Nat) : Prop := ∀ E g c cl i f j a c', cK cl f = 5 → cob c cl i → clrem c cl i f j = some (a, c') → cCo E cQ1 pF d 13 [.ref (car E g cl i f), .int j] (some (.ref a)) c' g c
def lcClr (pF : Nat → List Value → xH → Option (Option Value × xH)) (d : Nat) : Prop := ∀ E g c cl i f, cK cl f = 5 → cob c cl i → cCo E cQ1 pF d 3 [.ref (car E g cl i f)] none (clclr c cl i f) g c
/-- who stands in a list is a letter -/
theorem clget_lt {E : CE} {g : CG} {c : CS} {h : xH} {cl i f : Nat} {j : Int32} {a : Nat} (hc : CRep E g c h) (ha : clget c cl i f j = some a) : clt c a = true := by
  unfold clget at ha
  split at ha
  · cases ha
  · exact hc.2.2.2.2.1 cl i f a (List.mem_of_getElem? ha)
section CLL
variable {E : CE} {Q : Nat → Bool} {pF : Nat → List Value → xH → Option (Option Value × xH)} {d : Nat} {k : xK} {o nL : Nat} {pc np : Nat} {lv lv' : xL} {st : List Value} {ret : Option FieldType} {rr : Option Value} {cf c c' : CS} {g : CG}
theorem clist_lv {cl i f : Nat} (ho : cob c cl i) (hk : cK cl f = 5) : clv0 c (2, cl, i, f) := ⟨ho, by simpa using hk⟩
theorem clist_at {h : xH} {cl i f : Nat} (hc : CRep E g c h) (ho : cob c cl i) (hk : cK cl f = 5) : h.1 (car E g cl i f) = (4, 3, clv E g c cl i f) := by
  have e := (hc.1 _ (clist_lv ho hk)).1
  have ea : cad E g (2, cl, i, f) = car E g cl i f := by
    unfold cad car
    rw [if_neg (by show ¬ (2 = 0); omega), if_neg (by show ¬ (2 = 1); omega), if_pos rfl, if_neg (by show ¬ cK cl f = 3; omega)]
  rw [ea] at e
  exact e
/-- a list's member called -/
theorem cR_virtL {idx y n cl i f : Nat} {as : List Value} {r : Option Value} {st0 : List Value} {c1 : CS} (hl : xAt k pc (.invokevirtual idx) np) (hy : xmR o idx = some y) (hn : xnargs y = n) (hst : st0 = as.reverse ++ .ref (car E g cl i f) :: st) (hlen : as.length = n) (hc : xcat st ≤ 8)
    (hw : xSe.contains y = true ∧ xIn.contains y = true) (hb : (xMn y).cls = (xCl 3).1) (hk : cK cl f = 5) (ho : cob c cl i) (hcall : cCo E cQ1 pF d y (.ref (car E g cl i f) :: as) r c1 g c) (kk : cMon c c1 → cR E Q pF d k o nL ret rr cf g c1 (np, lv, r.toList ++ st)) : cR E Q pF d k o nL ret rr cf g c (pc, lv, st0) := by
  intro h hr
  obtain ⟨g1, h1, e1, e2, e3, e4⟩ := hcall h hr
  obtain rfl := cQ1_eq e2
  obtain ⟨g', h', k1, k2, k3, k4⟩ := kk e3 h1 e1
  refine ⟨g', h', k1, k2, cMon_t e3 k3, eE_virt hl hy hn hst hlen hc hw ?_ e4 k4⟩
  rw [clist_at hr ho hk]
  exact ⟨hb, by show 0 < 4; omega, by show 4 ≤ 17; omega⟩
theorem cR_virtLG {idx y n cl i f : Nat} {as : List Value} {r : Option Value} {st0 : List Value} {c1 : CS} {Q2 : Nat → Bool} (hQ : ∀ x, Q x = true → Q2 x = true) (hl : xAt k pc (.invokevirtual idx) np) (hy : xmR o idx = some y) (hn : xnargs y = n) (hst : st0 = as.reverse ++ .ref (car E g cl i f) :: st) (hlen : as.length = n) (hc : xcat st ≤ 8)
    (hw : xSe.contains y = true ∧ xIn.contains y = true) (hb : (xMn y).cls = (xCl 3).1) (hk : cK cl f = 5) (ho : cob c cl i) (hcall : cCo E Q2 pF d y (.ref (car E g cl i f) :: as) r c1 g c) (kk : cMon c c1 → ∀ g1, (∀ x, Q2 x = true → g1 x = g x) → cR E Q pF d k o nL ret rr cf g1 c1 (np, lv, r.toList ++ st)) : cR E Q pF d k o nL ret rr cf g c (pc, lv, st0) := by
  intro h hr
  obtain ⟨g1, h1, e1, e2, e3, e4⟩ := hcall h hr
  obtain ⟨g', h', k1, k2, k3, k4⟩ := kk e3 g1 e2 h1 e1
  refine ⟨g', h', k1, fun x hx => (k2 x hx).trans (e2 x (hQ x hx)), cMon_t e3 k3, eE_virt hl hy hn hst hlen hc hw ?_ e4 k4⟩
  rw [clist_at hr ho hk]
  exact ⟨hb, by show 0 < 4; omega, by show 4 ≤ 17; omega⟩
/-- a fact that the memory's lying there brings along -/
theorem cR_rep {f : Nat × xL × List Value} {P : Prop} (hP : ∀ h, CRep E g c h → P) (kk : P → cR E Q pF d k o nL ret rr cf g c f) : cR E Q pF d k o nL ret rr cf g c f := fun h hc => kk (hP h hc) h hc
end CLL
