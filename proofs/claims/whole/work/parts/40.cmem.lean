/-! the class's memory: CS (numbers by class, instance, field, place; longs; lengths of arrays that grow, capacities; lists of letters; which addresses are letters; next free address and slots), how it lies in the heap (CRep), the judgement cR and its rules (printed by wip/whole/gen_cmem.py). A letter's instance is its address. -/
abbrev CS : Type := (Nat → Nat → Nat → Nat → Int32) × (Nat → Nat → Nat → Nat → Int64) × (Nat → Nat → Nat → Nat) × (Nat → Nat → Nat → List Nat) × (Nat → Bool) × (Nat × Nat)
abbrev CG : Type := Nat → Nat → Nat → Nat
/-- what stays: where the objects lie, the arrays, the empty elementData, what is not the class's -/
abbrev CE : Type := (Nat → Nat → Nat) × (Nat → Nat → Nat → Nat) × Nat × (Nat → Option xC)
def cI (c : CS) := c.1
def cJ (c : CS) := c.2.1
def cL (c : CS) := c.2.2.1
def cS (c : CS) := c.2.2.2.1
def clt (c : CS) := c.2.2.2.2.1
def cT (c : CS) := c.2.2.2.2.2
/-- a field: kind (0 number, 1 long, 2 array, 3 array that grows, 4 object, 5 list, 6 array of objects), tag, length -/
def cTab : List (List (Nat × Nat × Nat)) := [[], [], [], [], [(0, 0, 0), (0, 0, 0), (3, 20, 0), (3, 22, 0), (0, 0, 0)], [(0, 0, 0), (4, 0, 0), (4, 0, 0), (0, 0, 0), (0, 0, 0), (0, 0, 0), (0, 0, 0), (0, 0, 0), (0, 0, 0), (0, 0, 0), (0, 0, 0), (0, 0, 0), (2, 22, 134), (0, 0, 0)], [(6, 27, 16), (6, 27, 16), (2, 20, 16), (2, 20, 16), (2, 20, 16), (0, 0, 0), (0, 0, 0), (0, 0, 0), (0, 0, 0), (0, 0, 0)], [(2, 20, 7), (2, 20, 7), (2, 20, 7), (2, 20, 7), (2, 20, 7), (2, 20, 7), (2, 23, 7), (2, 23, 7), (0, 0, 0), (0, 0, 0), (0, 0, 0), (0, 0, 0)], [(0, 0, 0), (0, 0, 0), (0, 0, 0), (0, 0, 0), (0, 0, 0), (0, 0, 0), (0, 0, 0), (0, 0, 0), (0, 0, 0), (0, 0, 0), (0, 0, 0), (0, 0, 0), (0, 0, 0), (0, 0, 0), (0, 0, 0), (0, 0, 0), (0, 0, 0), (0, 0, 0), (2, 20, 36), (2, 22, 200)], [(0, 0, 0), (2, 20, 1800), (2, 20, 6), (0, 0, 0), (0, 0, 0), (0, 0, 0), (0, 0, 0), (0, 0, 0), (0, 0, 0), (0, 0, 0), (0, 0, 0), (0, 0, 0)], [(4, 0, 0), (0, 0, 0), (2, 20, 80), (2, 22, 1616), (0, 0, 0), (0, 0, 0), (2, 20, 128), (2, 20, 128), (2, 20, 128), (2, 22, 16896), (2, 22, 134), (0, 0, 0), (0, 0, 0), (0, 0, 0), (3, 22, 0)], [(0, 0, 0), (0, 0, 0), (0, 0, 0), (0, 0, 0), (0, 0, 0), (0, 0, 0), (3, 20, 0), (3, 20, 0), (3, 22, 0), (0, 0, 0)], [(2, 23, 32), (2, 20, 32), (2, 20, 32), (2, 20, 32), (2, 20, 32), (2, 20, 32), (2, 20, 32), (0, 0, 0), (0, 0, 0)], [(0, 0, 0), (4, 0, 0), (4, 0, 0), (4, 0, 0), (4, 0, 0), (4, 0, 0), (4, 0, 0), (5, 0, 0), (0, 0, 0), (0, 0, 0), (0, 0, 0), (0, 0, 0), (0, 0, 0), (0, 0, 0), (0, 0, 0), (0, 0, 0), (0, 0, 0), (0, 0, 0), (3, 22, 0), (0, 0, 0)], [(0, 0, 0), (0, 0, 0), (0, 0, 0), (0, 0, 0), (0, 0, 0), (0, 0, 0), (0, 0, 0), (0, 0, 0), (0, 0, 0), (1, 0, 0), (2, 20, 23), (2, 20, 23), (2, 20, 256), (2, 20, 7), (2, 21, 7), (5, 0, 0), (5, 0, 0)], [(4, 0, 0), (4, 0, 0), (6, 25, 7), (6, 26, 8), (2, 22, 400), (0, 0, 0), (2, 22, 134), (0, 0, 0)]]
def cFt (cl f : Nat) : Nat × Nat × Nat := (cTab.getD cl []).getD f (9, 0, 0)
def cK (cl f : Nat) : Nat := (cFt cl f).1
def ctag (cl f : Nat) : Nat := (cFt cl f).2.1
def cln (cl f : Nat) : Nat := (cFt cl f).2.2
def cnf (cl : Nat) : Nat := (cTab.getD cl []).length
def ccnt (cl : Nat) : Nat := [0, 0, 0, 0, 1, 8, 7, 7, 0, 7, 7, 210, 7, 7, 1, 1].getD cl 0
def cpg (j : Nat) : Nat := if j < 2 then 2 * j else if j = 2 then 4 else if j = 3 then 5 else 2 * j - 2
def ckp (j : Nat) : Nat := if j < 2 then 2 * j + 1 else if j = 2 then 4 else if j = 3 then 5 else 2 * j - 1
/-- an object's field of kind 4 -/
def clk (cl i f : Nat) : Nat × Nat := if cl = 13 then (if f = 1 then (14, 0) else if f = 2 then (6, i) else if f = 3 then (9, i) else if f = 4 then (10, i) else if f = 5 then (7, i) else (12, i))
  else if cl = 10 then (4, 0) else if cl = 5 then (if f = 1 then (14, 0) else (4, 0)) else (if f = 0 then (14, 0) else (4, 0))
/-- what stands at place j of an array of objects -/
def clka (cl i f j : Nat) : Nat × Nat := if cl = 6 then (if f = 0 then (11, 30 * i + cpg j) else (11, 30 * i + ckp j)) else if f = 2 then (13, j) else (5, j)
def coa (E : CE) (cl i : Nat) : Nat := if cl = 8 then i else E.1 cl i
def caa (E : CE) (cl i f : Nat) : Nat := if cl = 8 then i + (f - 17) else E.2.1 cl i f
def car (E : CE) (g : CG) (cl i f : Nat) : Nat := if cK cl f = 3 then g cl i f else caa E cl i f
/-- a thing: 0 an object, 1 an array, 2 a list, 3 a list's elementData; class, instance, field -/
abbrev CN : Type := Nat × Nat × Nat × Nat
def cad (E : CE) (g : CG) (n : CN) : Nat := if n.1 = 0 then coa E n.2.1 n.2.2.1 else if n.1 = 1 then car E g n.2.1 n.2.2.1 n.2.2.2 else if n.1 = 2 then caa E n.2.1 n.2.2.1 n.2.2.2 else g n.2.1 n.2.2.1 n.2.2.2
def cfv (E : CE) (g : CG) (c : CS) (cl i f : Nat) : Value := if cK cl f = 0 then .int (cI c cl i f 0) else if cK cl f = 1 then .long (cJ c cl i f 0) else if cK cl f = 4 then .ref (coa E (clk cl i f).1 (clk cl i f).2) else if cK cl f = 9 then .null else .ref (car E g cl i f)
def cal (c : CS) (cl i f : Nat) : Nat := if cK cl f = 3 then cL c cl i f else cln cl f
def cav (E : CE) (c : CS) (cl i f j : Nat) : Value := if cK cl f = 6 then .ref (coa E (clka cl i f j).1 (clka cl i f j).2) else if ctag cl f = 21 then .long (cJ c cl i f j) else .int (cI c cl i f j)
def clv (E : CE) (g : CG) (c : CS) (cl i f q : Nat) : Value := if q = 0 then .int (cI c cl i f 0) else if q = 1 then .ref (if cL c cl i f = 0 then E.2.2.1 else g cl i f) else if q = 2 then .int (Int32.ofNat (cS c cl i f).length) else .int 0
def cev (c : CS) (cl i f j : Nat) : Value := match (cS c cl i f)[j]? with
  | some a => .ref a
  | none => .null
def ccell (E : CE) (g : CG) (c : CS) (n : CN) : xC :=
  if n.1 = 0 then (n.2.1 + 1, cnf n.2.1, cfv E g c n.2.1 n.2.2.1)
  else if n.1 = 1 then (ctag n.2.1 n.2.2.2, cal c n.2.1 n.2.2.1 n.2.2.2, cav E c n.2.1 n.2.2.1 n.2.2.2)
  else if n.1 = 2 then (4, 3, clv E g c n.2.1 n.2.2.1 n.2.2.2)
  else (24, cL c n.2.1 n.2.2.1 n.2.2.2, cev c n.2.1 n.2.2.1 n.2.2.2)
/-- an object is there -/
def cob (c : CS) (cl i : Nat) : Prop := 4 ≤ cl ∧ cl ≤ 15 ∧ if cl = 8 then clt c i = true else i < ccnt cl
def clv0 (c : CS) (n : CN) : Prop := cob c n.2.1 n.2.2.1 ∧ (if n.1 = 0 then n.2.2.2 = 0 else if n.1 = 1 then cK n.2.1 n.2.2.2 = 2 ∨ cK n.2.1 n.2.2.2 = 3 ∨ cK n.2.1 n.2.2.2 = 6 else if n.1 = 2 then cK n.2.1 n.2.2.2 = 5 else n.1 = 3 ∧ cK n.2.1 n.2.2.2 = 5 ∧ 0 < cL c n.2.1 n.2.2.1 n.2.2.2)
def CRep (E : CE) (g : CG) (c : CS) (h : xH) : Prop :=
  (∀ n, clv0 c n → h.1 (cad E g n) = ccell E g c n ∧ cad E g n < h.2.1) ∧ (∀ n n', clv0 c n → clv0 c n' → cad E g n = cad E g n' → n = n')
  ∧ (∀ a x, E.2.2.2 a = some x → h.1 a = x ∧ a < h.2.1 ∧ ∀ n, clv0 c n → cad E g n ≠ a) ∧ h.2 = cT c
  ∧ (∀ cl i f a, a ∈ cS c cl i f → clt c a = true) ∧ (E.2.2.2 E.2.2.1 = some (24, 0, fun _ => .null))
  ∧ (∀ cl i f, cob c cl i → cK cl f = 5 → (cS c cl i f).length ≤ cL c cl i f ∧ cL c cl i f ≤ 200000)
def cMon (c c' : CS) : Prop := ∀ a, clt c a = true → clt c' a = true
theorem cMon_r {c : CS} : cMon c c := fun _ h => h
theorem cMon_t {c c' c'' : CS} (h : cMon c c') (h' : cMon c' c'') : cMon c c'' := fun a q => h' a (h a q)
/-- from here the method comes to its end, in the memory cf, with the answer rr; Q: the classes whose arrays keep their places -/
def cQ1 : Nat → Bool := fun _ => true
def cQx (l : List Nat) : Nat → Bool := fun x => !l.contains x
theorem cQx_sub {l1 l2 : List Nat} (h : l2.all (fun x => l1.contains x) = true) : ∀ x, cQx l1 x = true → cQx l2 x = true := by
  intro x hx
  unfold cQx at *
  by_cases q : l2.contains x = true
  · have := List.all_eq_true.mp h x (by simpa using q)
    rw [this] at hx
    cases hx
  · simp only [Bool.not_eq_true] at q
    rw [q]
    rfl
theorem cQ1_eq {g g' : CG} (e : ∀ x, cQ1 x = true → g' x = g x) : g' = g := funext fun x => e x rfl
theorem car_keep {E : CE} {g g' : CG} {cl i f : Nat} (e : g' cl = g cl) : car E g' cl i f = car E g cl i f := by
  unfold car
  rw [e]
def cR (E : CE) (Q : Nat → Bool) (pF : Nat → List Value → xH → Option (Option Value × xH)) (d : Nat) (k : xK) (o nL : Nat) (ret : Option FieldType) (rr : Option Value) (cf : CS) (g : CG) (c : CS) (f : Nat × xL × List Value) : Prop :=
  ∀ h, CRep E g c h → ∃ g' h', CRep E g' cf h' ∧ (∀ x, Q x = true → g' x = g x) ∧ cMon c cf ∧ xR pF d k o nL false ret rr h' (f.1, f.2.1, f.2.2, h)
def cCo (E : CE) (Q : Nat → Bool) (pF : Nat → List Value → xH → Option (Option Value × xH)) (d y : Nat) (as : List Value) (rr : Option Value) (cf : CS) (g : CG) (c : CS) : Prop :=
  ∀ h, CRep E g c h → ∃ g' h', CRep E g' cf h' ∧ (∀ x, Q x = true → g' x = g x) ∧ cMon c cf ∧ xCo pF d y as h rr h'

def csI (c : CS) (cl i f j : Nat) (v : Int32) : CS := (fun a b x y => if a = cl ∧ b = i ∧ x = f ∧ y = j then v else c.1 a b x y, c.2)
def csJ (c : CS) (cl i f j : Nat) (v : Int64) : CS := (c.1, fun a b x y => if a = cl ∧ b = i ∧ x = f ∧ y = j then v else c.2.1 a b x y, c.2.2)
/-- a whole array of numbers anew -/
def csA (c : CS) (cl i f : Nat) (v : Nat → Int32) : CS := (fun a b x y => if a = cl ∧ b = i ∧ x = f then v y else c.1 a b x y, c.2)
theorem clv0_of {c c' : CS} (h1 : clt c' = clt c) (h2 : cL c' = cL c) {n : CN} : clv0 c' n ↔ clv0 c n := by
  unfold clv0 cob
  rw [h1, h2]
theorem cob_of {c c' : CS} (h1 : clt c' = clt c) {cl i : Nat} : cob c' cl i ↔ cob c cl i := by
  unfold cob
  rw [h1]
/-- one thing written anew -/
theorem CRep_set {E : CE} {g : CG} {c c' : CS} {h : xH} {n : CN} (hc : CRep E g c h) (hn : clv0 c n) (hT : cT c' = cT c) (hlt : clt c' = clt c) (hL : cL c' = cL c) (hS : cS c' = cS c) (he : ∀ n', clv0 c n' → n' ≠ n → ccell E g c' n' = ccell E g c n') : CRep E g c' (xset h.1 (cad E g n) (ccell E g c' n), h.2) := by
  obtain ⟨h1, h2, h3, h4, h5, h6, h7⟩ := hc
  refine ⟨fun n' hn' => ?_, fun a b ha hb => h2 a b ((clv0_of hlt hL).mp ha) ((clv0_of hlt hL).mp hb), fun a x hx => ?_, by rw [hT]; exact h4, by rw [hS, hlt]; exact h5, h6, fun cl i f ho => by rw [hS, hL]; exact h7 cl i f ((cob_of hlt).mp ho)⟩
  · have q := (clv0_of hlt hL).mp hn'
    obtain ⟨e1, e2⟩ := h1 n' q
    refine ⟨?_, e2⟩
    by_cases qe : n' = n
    · subst qe; simp only [xset, if_true]
    · have : cad E g n' ≠ cad E g n := fun e => qe (h2 n' n q hn e)
      simp only [xset, if_neg this, e1, he n' q qe]
  · obtain ⟨e1, e2, e3⟩ := h3 a x hx
    refine ⟨?_, e2, fun n' hn' => e3 n' ((clv0_of hlt hL).mp hn')⟩
    have : a ≠ cad E g n := fun e => e3 n hn e.symm
    simp only [xset, if_neg this, e1]
/-- where a field's number lies -/
def cnm (cl i f : Nat) : CN := if cK cl f = 0 ∨ cK cl f = 1 then (0, cl, i, 0) else if cK cl f = 5 then (2, cl, i, f) else (1, cl, i, f)
theorem ccell_ne {E : CE} {g : CG} {c c' : CS} {cl i f : Nat} {n : CN} (h1 : ∀ a b x y, ¬ (a = cl ∧ b = i ∧ x = f) → cI c' a b x y = cI c a b x y ∧ cJ c' a b x y = cJ c a b x y) (hL : cL c' = cL c) (hS : cS c' = cS c) (hn : clv0 c n) (hne : n ≠ cnm cl i f) : ccell E g c' n = ccell E g c n := by
  obtain ⟨k, a, b, x⟩ := n
  unfold ccell
  dsimp only
  obtain ⟨-, hk⟩ := hn
  dsimp only at hk
  by_cases q0 : k = 0
  · subst q0
    rw [if_pos rfl] at hk
    subst hk
    rw [if_pos rfl, if_pos rfl]
    simp only [Prod.mk.injEq, true_and]
    funext y
    unfold cfv
    have hq : (cK a y = 0 ∨ cK a y = 1) → ¬ (a = cl ∧ b = i ∧ y = f) := by
      rintro q ⟨rfl, rfl, rfl⟩
      apply hne
      unfold cnm
      rw [if_pos q]
    split
    next q => rw [(h1 a b y 0 (hq (Or.inl q))).1]
    next =>
      split
      next q => rw [(h1 a b y 0 (hq (Or.inr q))).2]
      next => rfl
  · rw [if_neg q0] at hk ⊢
    rw [if_neg q0]
    by_cases q1 : k = 1
    · subst q1
      rw [if_pos rfl] at hk
      rw [if_pos rfl, if_pos rfl]
      have hq : ¬ (a = cl ∧ b = i ∧ x = f) := by
        rintro ⟨rfl, rfl, rfl⟩
        apply hne
        unfold cnm
        rw [if_neg (by omega), if_neg (by omega)]
      unfold cal
      rw [hL]
      simp only [Prod.mk.injEq, true_and]
      funext y
      unfold cav
      rw [(h1 a b x y hq).1, (h1 a b x y hq).2]
    · rw [if_neg q1] at hk ⊢
      rw [if_neg q1]
      by_cases q2 : k = 2
      · subst q2
        rw [if_pos rfl] at hk
        rw [if_pos rfl, if_pos rfl]
        have hq : ¬ (a = cl ∧ b = i ∧ x = f) := by
          rintro ⟨rfl, rfl, rfl⟩
          apply hne
          unfold cnm
          rw [if_neg (by omega), if_pos hk]
        simp only [Prod.mk.injEq, true_and]
        funext y
        unfold clv
        rw [(h1 a b x 0 hq).1, hL, hS]
      · rw [if_neg q2, if_neg q2]
        unfold cev
        rw [hL, hS]
theorem csI_o {c : CS} {cl i f j : Nat} {v : Int32} : ∀ a b x y, ¬ (a = cl ∧ b = i ∧ x = f) → cI (csI c cl i f j v) a b x y = cI c a b x y ∧ cJ (csI c cl i f j v) a b x y = cJ c a b x y := by
  intro a b x y h
  refine ⟨?_, rfl⟩
  unfold csI cI
  dsimp only
  rw [if_neg (fun q => h ⟨q.1, q.2.1, q.2.2.1⟩)]
theorem csJ_o {c : CS} {cl i f j : Nat} {v : Int64} : ∀ a b x y, ¬ (a = cl ∧ b = i ∧ x = f) → cI (csJ c cl i f j v) a b x y = cI c a b x y ∧ cJ (csJ c cl i f j v) a b x y = cJ c a b x y := by
  intro a b x y h
  refine ⟨rfl, ?_⟩
  unfold csJ cJ
  dsimp only
  rw [if_neg (fun q => h ⟨q.1, q.2.1, q.2.2.1⟩)]
theorem csA_o {c : CS} {cl i f : Nat} {v : Nat → Int32} : ∀ a b x y, ¬ (a = cl ∧ b = i ∧ x = f) → cI (csA c cl i f v) a b x y = cI c a b x y ∧ cJ (csA c cl i f v) a b x y = cJ c a b x y := by
  intro a b x y h
  refine ⟨?_, rfl⟩
  unfold csA cI
  dsimp only
  rw [if_neg h]
theorem cob_lv {c : CS} {cl i : Nat} (h : cob c cl i) : clv0 c (0, cl, i, 0) := ⟨h, by simp⟩
theorem carr_lv {c : CS} {cl i f : Nat} (h : cob c cl i) (hk : cK cl f = 2 ∨ cK cl f = 3 ∨ cK cl f = 6) : clv0 c (1, cl, i, f) := ⟨h, by simpa using hk⟩
/-- an object, an array, as it lies there -/
theorem CRep_obj {E : CE} {g : CG} {c : CS} {h : xH} {cl i : Nat} (hc : CRep E g c h) (ho : cob c cl i) : h.1 (coa E cl i) = (cl + 1, cnf cl, cfv E g c cl i) := (hc.1 _ (cob_lv ho)).1
theorem CRep_arr {E : CE} {g : CG} {c : CS} {h : xH} {cl i f : Nat} (hc : CRep E g c h) (ho : cob c cl i) (hk : cK cl f = 2 ∨ cK cl f = 3 ∨ cK cl f = 6) : h.1 (car E g cl i f) = (ctag cl f, cal c cl i f, cav E c cl i f) := (hc.1 _ (carr_lv ho hk)).1
section CRR
variable {E : CE} {Q : Nat → Bool} {pF : Nat → List Value → xH → Option (Option Value × xH)} {d : Nat} {k : xK} {o nL : Nat} {pc np : Nat} {lv lv' : xL} {st : List Value} {ret : Option FieldType} {rr : Option Value} {cf c c' : CS} {g : CG}
/-- a rule that leaves the heap alone -/
theorem cR_lift {pc' : Nat} {st' : List Value} (hs : ∀ h hh, xR pF d k o nL false ret rr hh (pc', lv', st', h) → xR pF d k o nL false ret rr hh (pc, lv, st, h)) (kk : cR E Q pF d k o nL ret rr cf g c (pc', lv', st')) : cR E Q pF d k o nL ret rr cf g c (pc, lv, st) := by
  intro h hc
  obtain ⟨g', h', e1, e2, e3, e4⟩ := kk h hc
  exact ⟨g', h', e1, e2, e3, hs h h' e4⟩
/-- a rule that looks at the heap -/
theorem cR_look {pc' : Nat} {st' : List Value} (hs : ∀ h hh, CRep E g c h → xR pF d k o nL false ret rr hh (pc', lv', st', h) → xR pF d k o nL false ret rr hh (pc, lv, st, h)) (kk : cR E Q pF d k o nL ret rr cf g c (pc', lv', st')) : cR E Q pF d k o nL ret rr cf g c (pc, lv, st) := by
  intro h hc
  obtain ⟨g', h', e1, e2, e3, e4⟩ := kk h hc
  exact ⟨g', h', e1, e2, e3, hs h h' hc e4⟩
/-- a rule that writes one thing -/
theorem cR_write {pc' : Nat} {st' : List Value} (n : CN) (hn : clv0 c n) (hT : cT c' = cT c) (hlt : clt c' = clt c) (hL : cL c' = cL c) (hS : cS c' = cS c) (he : ∀ n', clv0 c n' → n' ≠ n → ccell E g c' n' = ccell E g c n') (hs : ∀ h hh, CRep E g c h → xR pF d k o nL false ret rr hh (pc', lv', st', (xset h.1 (cad E g n) (ccell E g c' n), h.2)) → xR pF d k o nL false ret rr hh (pc, lv, st, h)) (kk : cR E Q pF d k o nL ret rr cf g c' (pc', lv', st')) : cR E Q pF d k o nL ret rr cf g c (pc, lv, st) := by
  intro h hc
  obtain ⟨g', h', e1, e2, e3, e4⟩ := kk _ (CRep_set hc hn hT hlt hL hS he)
  exact ⟨g', h', e1, e2, fun a q => e3 a (by rw [hlt]; exact q), hs h h' hc e4⟩
theorem cR_getI {idx cl i f : Nat} (hl : xAt k pc (.getfield idx) np) (hf : xfR o idx = some (cl, f)) (hk : cK cl f = 0) (ho : cob c cl i) (kk : cR E Q pF d k o nL ret rr cf g c (np, lv, .int (cI c cl i f 0) :: st)) : cR E Q pF d k o nL ret rr cf g c (pc, lv, .ref (coa E cl i) :: st) := by
  refine cR_look (fun h hh hc q => ?_) kk
  refine xE_p hl rfl (fun len h1 h2 => ?_) q
  obtain rfl : len = 3 := by simp only [xlen] at h2; omega
  subst h1
  simp [xpure, xgetf, hf, CRep_obj hc ho, cfv, hk]
theorem cR_getJ {idx cl i f : Nat} (hl : xAt k pc (.getfield idx) np) (hf : xfR o idx = some (cl, f)) (hk : cK cl f = 1) (ho : cob c cl i) (kk : cR E Q pF d k o nL ret rr cf g c (np, lv, .long (cJ c cl i f 0) :: st)) : cR E Q pF d k o nL ret rr cf g c (pc, lv, .ref (coa E cl i) :: st) := by
  refine cR_look (fun h hh hc q => ?_) kk
  refine xE_p hl rfl (fun len h1 h2 => ?_) q
  obtain rfl : len = 3 := by simp only [xlen] at h2; omega
  subst h1
  simp [xpure, xgetf, hf, CRep_obj hc ho, cfv, hk]
theorem cR_getO {idx cl i f cl' i' : Nat} (hl : xAt k pc (.getfield idx) np) (hf : xfR o idx = some (cl, f)) (hk : cK cl f = 4) (hq : clk cl i f = (cl', i')) (ho : cob c cl i) (kk : cR E Q pF d k o nL ret rr cf g c (np, lv, .ref (coa E cl' i') :: st)) : cR E Q pF d k o nL ret rr cf g c (pc, lv, .ref (coa E cl i) :: st) := by
  refine cR_look (fun h hh hc q => ?_) kk
  refine xE_p hl rfl (fun len h1 h2 => ?_) q
  obtain rfl : len = 3 := by simp only [xlen] at h2; omega
  subst h1
  simp [xpure, xgetf, hf, CRep_obj hc ho, cfv, hk, hq]
theorem cR_getA {idx cl i f : Nat} (hl : xAt k pc (.getfield idx) np) (hf : xfR o idx = some (cl, f)) (hk : cK cl f = 2 ∨ cK cl f = 3 ∨ cK cl f = 5 ∨ cK cl f = 6) (ho : cob c cl i) (kk : cR E Q pF d k o nL ret rr cf g c (np, lv, .ref (car E g cl i f) :: st)) : cR E Q pF d k o nL ret rr cf g c (pc, lv, .ref (coa E cl i) :: st) := by
  refine cR_look (fun h hh hc q => ?_) kk
  refine xE_p hl rfl (fun len h1 h2 => ?_) q
  obtain rfl : len = 3 := by simp only [xlen] at h2; omega
  subst h1
  have e : cfv E g c cl i f = .ref (car E g cl i f) := by
    unfold cfv
    rw [if_neg (by omega), if_neg (by omega), if_neg (by omega), if_neg (by omega)]
  simp [xpure, xgetf, hf, CRep_obj hc ho, e]
theorem cR_putI {idx cl i f : Nat} {v : Int32} {ty : FieldType} (hl : xAt k pc (.putfield idx) np) (hf : xfR o idx = some (cl, f)) (hk : cK cl f = 0) (ho : cob c cl i) (hp : f < (xCl cl).2.2 ∧ ((xCl cl).2.1 f).2.2.2 = false ∧ xfty cl f = some ty) (hv : xfit ty (.int v) = true) (hc' : some (csI c cl i f 0 v) = some c') (kk : cR E Q pF d k o nL ret rr cf g c' (np, lv, st)) : cR E Q pF d k o nL ret rr cf g c (pc, lv, .int v :: .ref (coa E cl i) :: st) := by
  cases hc'
  have e0 : cnm cl i f = (0, cl, i, 0) := by unfold cnm; rw [if_pos (Or.inl hk)]
  refine cR_write (c' := csI c cl i f 0 v) (0, cl, i, 0) (cob_lv ho) rfl rfl rfl rfl (fun n' h1 h2 => ccell_ne csI_o rfl rfl h1 (by rw [e0]; exact h2)) (fun h hh hc q => ?_) kk
  refine xE_m hl rfl (fun len => by simp [xpure]) ?_ q
  obtain ⟨len, -, h2, h3⟩ := hl
  obtain rfl : len = 3 := by simp only [xlen] at h2; omega
  subst h3
  have e2 := CRep_obj hc ho
  have e3 : ccell E g (csI c cl i f 0 v) (0, cl, i, 0) = (cl + 1, cnf cl, updV (cfv E g c cl i) f (.int v)) := by
    unfold ccell
    rw [if_pos rfl]
    simp only [Prod.mk.injEq, true_and]
    funext y
    unfold updV cfv csI cI cJ
    by_cases qy : y = f
    · subst qy; simp [hk]
    · simp [qy]
  have e4 : cad E g (0, cl, i, 0) = coa E cl i := rfl
  rw [e3, e4]
  simp only [xmem, hf, e2, hp.1, hp.2.1, hp.2.2, hv, true_or, and_self, if_true]
theorem cR_putJ {idx cl i f : Nat} {v : Int64} (hl : xAt k pc (.putfield idx) np) (hf : xfR o idx = some (cl, f)) (hk : cK cl f = 1) (ho : cob c cl i) (hp : f < (xCl cl).2.2 ∧ ((xCl cl).2.1 f).2.2.2 = false ∧ xfty cl f = some .long) (hc' : some (csJ c cl i f 0 v) = some c') (kk : cR E Q pF d k o nL ret rr cf g c' (np, lv, st)) : cR E Q pF d k o nL ret rr cf g c (pc, lv, .long v :: .ref (coa E cl i) :: st) := by
  cases hc'
  have e0 : cnm cl i f = (0, cl, i, 0) := by unfold cnm; rw [if_pos (Or.inr hk)]
  refine cR_write (c' := csJ c cl i f 0 v) (0, cl, i, 0) (cob_lv ho) rfl rfl rfl rfl (fun n' h1 h2 => ccell_ne csJ_o rfl rfl h1 (by rw [e0]; exact h2)) (fun h hh hc q => ?_) kk
  refine xE_m hl rfl (fun len => by simp [xpure]) ?_ q
  obtain ⟨len, -, h2, h3⟩ := hl
  obtain rfl : len = 3 := by simp only [xlen] at h2; omega
  subst h3
  have e2 := CRep_obj hc ho
  have e3 : ccell E g (csJ c cl i f 0 v) (0, cl, i, 0) = (cl + 1, cnf cl, updV (cfv E g c cl i) f (.long v)) := by
    unfold ccell
    rw [if_pos rfl]
    simp only [Prod.mk.injEq, true_and]
    funext y
    unfold updV cfv csJ cI cJ
    by_cases qy : y = f
    · subst qy; simp [hk]
    · simp [qy]
  have e4 : cad E g (0, cl, i, 0) = coa E cl i := rfl
  rw [e3, e4]
  simp only [xmem, hf, e2, hp.1, hp.2.1, hp.2.2, xfit, true_or, and_self, if_true]
/-- reads and writes of places -/
def crd (c : CS) (cl i f : Nat) (j : Int32) : Option Int32 := if j < 0 ∨ cal c cl i f ≤ j.toNatClampNeg then none else some (cI c cl i f j.toNatClampNeg)
def crdJ (c : CS) (cl i f : Nat) (j : Int32) : Option Int64 := if j < 0 ∨ cal c cl i f ≤ j.toNatClampNeg then none else some (cJ c cl i f j.toNatClampNeg)
def cwr (c : CS) (cl i f : Nat) (j v : Int32) : Option CS := if j < 0 ∨ cal c cl i f ≤ j.toNatClampNeg then none else some (csI c cl i f j.toNatClampNeg v)
def cwrJ (c : CS) (cl i f : Nat) (j : Int32) (v : Int64) : Option CS := if j < 0 ∨ cal c cl i f ≤ j.toNatClampNeg then none else some (csJ c cl i f j.toNatClampNeg v)
/-- the place of an array of objects: its number -/
def cix (cl f : Nat) (j : Int32) : Option Nat := if j < 0 ∨ cln cl f ≤ j.toNatClampNeg then none else some j.toNatClampNeg
theorem cif_s {α : Type} {p : Prop} [Decidable p] {a b : α} (h : (if p then none else some a) = some b) : ¬ p ∧ a = b := by
  by_cases q : p
  · rw [if_pos q] at h; cases h
  · rw [if_neg q] at h; exact ⟨q, Option.some.inj h⟩
theorem cR_iald {cl i f : Nat} {j x : Int32} (hl : xAt k pc .iaload np) (hk : cK cl f = 2 ∨ cK cl f = 3) (ht : ctag cl f = 20) (ho : cob c cl i) (hx : crd c cl i f j = some x) (kk : cR E Q pF d k o nL ret rr cf g c (np, lv, .int x :: st)) : cR E Q pF d k o nL ret rr cf g c (pc, lv, .int j :: .ref (car E g cl i f) :: st) := by
  obtain ⟨h1, rfl⟩ := cif_s hx
  refine cR_look (fun h hh hc q => ?_) kk
  refine xE_p hl rfl (fun len e1 e5 => ?_) q
  obtain rfl : len = 1 := by simp only [xlen] at e5; omega
  subst e1
  have e2 := CRep_arr hc ho (show cK cl f = 2 ∨ cK cl f = 3 ∨ cK cl f = 6 by omega)
  have e3 : cav E c cl i f j.toNatClampNeg = .int (cI c cl i f j.toNatClampNeg) := by
    unfold cav; rw [if_neg (by omega), if_neg (by omega)]
  simp only [xpure, xald, e2, ht, if_neg h1, e3]
  simp
theorem cR_bald {cl i f : Nat} {j x : Int32} (hl : xAt k pc .baload np) (hk : cK cl f = 2 ∨ cK cl f = 3) (ht : ctag cl f = 22 ∨ ctag cl f = 23) (ho : cob c cl i) (hx : crd c cl i f j = some x) (kk : cR E Q pF d k o nL ret rr cf g c (np, lv, .int x :: st)) : cR E Q pF d k o nL ret rr cf g c (pc, lv, .int j :: .ref (car E g cl i f) :: st) := by
  obtain ⟨h1, rfl⟩ := cif_s hx
  refine cR_look (fun h hh hc q => ?_) kk
  refine xE_p hl rfl (fun len e1 e5 => ?_) q
  obtain rfl : len = 1 := by simp only [xlen] at e5; omega
  subst e1
  have e2 := CRep_arr hc ho (show cK cl f = 2 ∨ cK cl f = 3 ∨ cK cl f = 6 by omega)
  have e3 : cav E c cl i f j.toNatClampNeg = .int (cI c cl i f j.toNatClampNeg) := by
    unfold cav; rw [if_neg (by omega), if_neg (by omega)]
  rcases ht with ht | ht <;> (simp only [xpure, xald, e2, ht, if_neg h1, e3]; simp)
theorem cR_lald {cl i f : Nat} {j : Int32} {x : Int64} (hl : xAt k pc .laload np) (hk : cK cl f = 2 ∨ cK cl f = 3) (ht : ctag cl f = 21) (ho : cob c cl i) (hx : crdJ c cl i f j = some x) (kk : cR E Q pF d k o nL ret rr cf g c (np, lv, .long x :: st)) : cR E Q pF d k o nL ret rr cf g c (pc, lv, .int j :: .ref (car E g cl i f) :: st) := by
  obtain ⟨h1, rfl⟩ := cif_s hx
  refine cR_look (fun h hh hc q => ?_) kk
  refine xE_p hl rfl (fun len e1 e5 => ?_) q
  obtain rfl : len = 1 := by simp only [xlen] at e5; omega
  subst e1
  have e2 := CRep_arr hc ho (show cK cl f = 2 ∨ cK cl f = 3 ∨ cK cl f = 6 by omega)
  have e3 : cav E c cl i f j.toNatClampNeg = .long (cJ c cl i f j.toNatClampNeg) := by
    unfold cav; rw [if_neg (by omega), if_pos ht]
  simp only [xpure, xald, e2, ht, if_neg h1, e3]
  simp
theorem cR_aald {cl i f cl' i' n : Nat} {j : Int32} (hl : xAt k pc .aaload np) (hk : cK cl f = 6) (ht : 24 ≤ ctag cl f ∧ ctag cl f ≤ 27) (ho : cob c cl i) (hx : cix cl f j = some n) (hq : clka cl i f n = (cl', i')) (kk : cR E Q pF d k o nL ret rr cf g c (np, lv, .ref (coa E cl' i') :: st)) : cR E Q pF d k o nL ret rr cf g c (pc, lv, .int j :: .ref (car E g cl i f) :: st) := by
  obtain ⟨h1, rfl⟩ := cif_s hx
  refine cR_look (fun h hh hc q => ?_) kk
  refine xE_p hl rfl (fun len e1 e5 => ?_) q
  obtain rfl : len = 1 := by simp only [xlen] at e5; omega
  subst e1
  have e2 := CRep_arr hc ho (show cK cl f = 2 ∨ cK cl f = 3 ∨ cK cl f = 6 by omega)
  have e3 : cav E c cl i f j.toNatClampNeg = .ref (coa E cl' i') := by
    unfold cav; rw [if_pos hk, hq]
  have e4 : cal c cl i f = cln cl f := by unfold cal; rw [if_neg (by omega)]
  simp only [xpure, xald, e2, ht, e4, if_neg h1, e3, decide_true, Bool.and_self, if_true]
theorem cR_alen {cl i f : Nat} (hl : xAt k pc .arraylength np) (hk : cK cl f = 2 ∨ cK cl f = 3 ∨ cK cl f = 6) (ht : 20 ≤ ctag cl f) (ho : cob c cl i) (kk : cR E Q pF d k o nL ret rr cf g c (np, lv, .int (Int32.ofNat (cal c cl i f)) :: st)) : cR E Q pF d k o nL ret rr cf g c (pc, lv, .ref (car E g cl i f) :: st) := by
  refine cR_look (fun h hh hc q => ?_) kk
  refine xE_p hl rfl (fun len e1 e2 => ?_) q
  obtain rfl : len = 1 := by simp only [xlen] at e2; omega
  subst e1
  simp only [xpure, CRep_arr hc ho hk, if_pos ht]
theorem cnm_arr {cl i f : Nat} (hk : cK cl f = 2 ∨ cK cl f = 3) : cnm cl i f = (1, cl, i, f) := by
  unfold cnm
  rw [if_neg (by omega), if_neg (by omega)]
theorem ccell_arr {E : CE} {g : CG} {c : CS} {cl i f j : Nat} {v : Int32} (hk : cK cl f = 2 ∨ cK cl f = 3) (ht : ctag cl f ≠ 21) : ccell E g (csI c cl i f j v) (1, cl, i, f) = (ctag cl f, cal c cl i f, updV (cav E c cl i f) j (.int v)) := by
  unfold ccell
  rw [if_neg (by show ¬ (1 = 0); omega), if_pos rfl]
  simp only [Prod.mk.injEq, true_and]
  refine ⟨rfl, ?_⟩
  funext y
  unfold updV cav csI cI cJ
  have : ¬ cK cl f = 6 := by omega
  by_cases qy : y = j
  · subst qy; simp [this, ht]
  · simp [qy, this, ht]
theorem ccell_arrJ {E : CE} {g : CG} {c : CS} {cl i f j : Nat} {v : Int64} (hk : cK cl f = 2 ∨ cK cl f = 3) (ht : ctag cl f = 21) : ccell E g (csJ c cl i f j v) (1, cl, i, f) = (ctag cl f, cal c cl i f, updV (cav E c cl i f) j (.long v)) := by
  unfold ccell
  rw [if_neg (by show ¬ (1 = 0); omega), if_pos rfl]
  simp only [Prod.mk.injEq, true_and]
  refine ⟨rfl, ?_⟩
  funext y
  unfold updV cav csJ cI cJ
  have : ¬ cK cl f = 6 := by omega
  by_cases qy : y = j
  · subst qy; simp [this, ht]
  · simp [qy, this, ht]
theorem cR_iast {cl i f : Nat} {j v : Int32} (hl : xAt k pc .iastore np) (hk : cK cl f = 2 ∨ cK cl f = 3) (ht : ctag cl f = 20) (ho : cob c cl i) (hx : cwr c cl i f j v = some c') (kk : cR E Q pF d k o nL ret rr cf g c' (np, lv, st)) : cR E Q pF d k o nL ret rr cf g c (pc, lv, .int v :: .int j :: .ref (car E g cl i f) :: st) := by
  obtain ⟨h1, rfl⟩ := cif_s hx
  refine cR_write (c' := csI c cl i f j.toNatClampNeg v) (1, cl, i, f) (carr_lv ho (by omega)) rfl rfl rfl rfl (fun n' q1 q2 => ccell_ne csI_o rfl rfl q1 (by rw [cnm_arr hk]; exact q2)) (fun h hh hc q => ?_) kk
  rw [ccell_arr hk (by omega)] at q
  refine xE_m hl rfl (fun len => by simp [xpure]) ?_ q
  obtain ⟨len, -, h2, h3⟩ := hl
  obtain rfl : len = 1 := by simp only [xlen] at h2; omega
  subst h3
  have e2 := CRep_arr hc ho (show cK cl f = 2 ∨ cK cl f = 3 ∨ cK cl f = 6 by omega)
  have e4 : cad E g (1, cl, i, f) = car E g cl i f := rfl
  simp only [xmem, xast, e2, e4, ht, if_neg h1, if_true]
theorem cR_last {cl i f : Nat} {j : Int32} {v : Int64} (hl : xAt k pc .lastore np) (hk : cK cl f = 2 ∨ cK cl f = 3) (ht : ctag cl f = 21) (ho : cob c cl i) (hx : cwrJ c cl i f j v = some c') (kk : cR E Q pF d k o nL ret rr cf g c' (np, lv, st)) : cR E Q pF d k o nL ret rr cf g c (pc, lv, .long v :: .int j :: .ref (car E g cl i f) :: st) := by
  obtain ⟨h1, rfl⟩ := cif_s hx
  refine cR_write (c' := csJ c cl i f j.toNatClampNeg v) (1, cl, i, f) (carr_lv ho (by omega)) rfl rfl rfl rfl (fun n' q1 q2 => ccell_ne csJ_o rfl rfl q1 (by rw [cnm_arr hk]; exact q2)) (fun h hh hc q => ?_) kk
  rw [ccell_arrJ hk ht] at q
  refine xE_m hl rfl (fun len => by simp [xpure]) ?_ q
  obtain ⟨len, -, h2, h3⟩ := hl
  obtain rfl : len = 1 := by simp only [xlen] at h2; omega
  subst h3
  have e2 := CRep_arr hc ho (show cK cl f = 2 ∨ cK cl f = 3 ∨ cK cl f = 6 by omega)
  have e4 : cad E g (1, cl, i, f) = car E g cl i f := rfl
  simp only [xmem, xast, e2, e4, ht, if_neg h1, if_true]
theorem cR_bast {cl i f : Nat} {j v w : Int32} (hl : xAt k pc .bastore np) (hk : cK cl f = 2 ∨ cK cl f = 3) (ht : ctag cl f = 22) (hw : v.toInt8.toInt32 = w) (ho : cob c cl i) (hx : cwr c cl i f j w = some c') (kk : cR E Q pF d k o nL ret rr cf g c' (np, lv, st)) : cR E Q pF d k o nL ret rr cf g c (pc, lv, .int v :: .int j :: .ref (car E g cl i f) :: st) := by
  obtain ⟨h1, rfl⟩ := cif_s hx
  refine cR_write (c' := csI c cl i f j.toNatClampNeg w) (1, cl, i, f) (carr_lv ho (by omega)) rfl rfl rfl rfl (fun n' q1 q2 => ccell_ne csI_o rfl rfl q1 (by rw [cnm_arr hk]; exact q2)) (fun h hh hc q => ?_) kk
  rw [ccell_arr hk (by omega)] at q
  refine xE_m hl rfl (fun len => by simp [xpure]) ?_ q
  obtain ⟨len, -, h2, h3⟩ := hl
  obtain rfl : len = 1 := by simp only [xlen] at h2; omega
  subst h3
  have e2 := CRep_arr hc ho (show cK cl f = 2 ∨ cK cl f = 3 ∨ cK cl f = 6 by omega)
  have e4 : cad E g (1, cl, i, f) = car E g cl i f := rfl
  simp only [xmem, xast, e2, e4, ht, if_neg h1, if_true, hw]
theorem cR_zast {cl i f : Nat} {j v w : Int32} (hl : xAt k pc .bastore np) (hk : cK cl f = 2 ∨ cK cl f = 3) (ht : ctag cl f = 23) (hw : v &&& 1 = w) (ho : cob c cl i) (hx : cwr c cl i f j w = some c') (kk : cR E Q pF d k o nL ret rr cf g c' (np, lv, st)) : cR E Q pF d k o nL ret rr cf g c (pc, lv, .int v :: .int j :: .ref (car E g cl i f) :: st) := by
  obtain ⟨h1, rfl⟩ := cif_s hx
  refine cR_write (c' := csI c cl i f j.toNatClampNeg w) (1, cl, i, f) (carr_lv ho (by omega)) rfl rfl rfl rfl (fun n' q1 q2 => ccell_ne csI_o rfl rfl q1 (by rw [cnm_arr hk]; exact q2)) (fun h hh hc q => ?_) kk
  rw [ccell_arr hk (by omega)] at q
  refine xE_m hl rfl (fun len => by simp [xpure]) ?_ q
  obtain ⟨len, -, h2, h3⟩ := hl
  obtain rfl : len = 1 := by simp only [xlen] at h2; omega
  subst h3
  have e2 := CRep_arr hc ho (show cK cl f = 2 ∨ cK cl f = 3 ∨ cK cl f = 6 by omega)
  have e4 : cad E g (1, cl, i, f) = car E g cl i f := rfl
  simp only [xmem, xast, e2, e4, ht, if_neg h1, if_true, hw]
  simp
/-- stores into locals -/
theorem cR_stI {j : Nat} {x : Int32} {i : Instr} (hl : xAt k pc i np) (hi : i = .istore j ∨ ∃ q : Fin 4, i = .istore_n q ∧ (q : Nat) = j) (hn : j < nL) (kk : ∀ lv', xg lv' j = some (.int x) → xKeep j lv lv' → cR E Q pF d k o nL ret rr cf g c (np, lv', st)) : cR E Q pF d k o nL ret rr cf g c (pc, lv, .int x :: st) := by
  refine cR_lift (fun h hh q => ?_) (kk _ xs1_keep.1 xs1_keep.2)
  rcases hi with rfl | ⟨q', rfl, rfl⟩
  · exact eE_istore hl hn rfl q
  · exact eE_istore_n hl hn rfl q
theorem cR_stA {j : Nat} {x : Nat} {i : Instr} (hl : xAt k pc i np) (hi : i = .astore j ∨ ∃ q : Fin 4, i = .astore_n q ∧ (q : Nat) = j) (hn : j < nL) (kk : ∀ lv', xg lv' j = some (.ref x) → xKeep j lv lv' → cR E Q pF d k o nL ret rr cf g c (np, lv', st)) : cR E Q pF d k o nL ret rr cf g c (pc, lv, .ref x :: st) := by
  refine cR_lift (fun h hh q => ?_) (kk _ xs1_keep.1 xs1_keep.2)
  rcases hi with rfl | ⟨q', rfl, rfl⟩
  · exact eE_astore hl hn rfl q
  · exact eE_astore_n hl hn rfl q
theorem cR_stL {j : Nat} {x : Int64} {i : Instr} (hl : xAt k pc i np) (hi : i = .lstore j ∨ ∃ q : Fin 4, i = .lstore_n q ∧ (q : Nat) = j) (hn : j + 1 < nL) (kk : ∀ lv', xg lv' j = some (.long x) → (∀ (i : Nat) (w : Value), i ≠ j → i ≠ j + 1 → (i + 1 = j → w.category = 1) → xg lv i = some w → xg lv' i = some w) → cR E Q pF d k o nL ret rr cf g c (np, lv', st)) : cR E Q pF d k o nL ret rr cf g c (pc, lv, .long x :: st) := by
  refine cR_lift (fun h hh q => ?_) (kk _ xs2_keep.1 xs2_keep.2)
  rcases hi with rfl | ⟨q', rfl, rfl⟩
  · exact eE_lstore hl hn rfl q
  · exact eE_lstore_n hl hn rfl q
theorem cR_inc {j : Nat} {n : Int} {x v : Int32} (hl : xAt k pc (.iinc j n) np) (hg : xg lv j = some (.int x)) (hv : x + Int32.ofInt n = v) (hn : j < nL) (kk : ∀ lv', xg lv' j = some (.int v) → xKeep j lv lv' → cR E Q pF d k o nL ret rr cf g c (np, lv', st)) : cR E Q pF d k o nL ret rr cf g c (pc, lv, st) :=
  cR_lift (fun h hh q => eE_iinc hl hg hv hn rfl q) (kk _ xs1_keep.1 xs1_keep.2)
/-- branches -/
theorem cR_if {cd : Jvm.ClassFile.Cond} {off : Int} {x : Int32} {t : Nat} (hl : xAt k pc (.ifCond cd off) np) (ht : (pc : Int) + off = (t : Int)) (kt : xc0 cd x = true → cR E Q pF d k o nL ret rr cf g c (t, lv, st)) (kf : ¬ xc0 cd x = true → cR E Q pF d k o nL ret rr cf g c (np, lv, st)) : cR E Q pF d k o nL ret rr cf g c (pc, lv, .int x :: st) := by
  by_cases q : xc0 cd x = true
  · exact cR_lift (fun h hh r => eE_if hl ht (fun _ => r) (fun z => absurd q z)) (kt q)
  · exact cR_lift (fun h hh r => eE_if hl ht (fun z => absurd z q) (fun _ => r)) (kf q)
theorem cR_icmp {cd : Jvm.ClassFile.Cond} {off : Int} {x y : Int32} {t : Nat} (hl : xAt k pc (.if_icmp cd off) np) (ht : (pc : Int) + off = (t : Int)) (kt : xc2 cd x y = true → cR E Q pF d k o nL ret rr cf g c (t, lv, st)) (kf : ¬ xc2 cd x y = true → cR E Q pF d k o nL ret rr cf g c (np, lv, st)) : cR E Q pF d k o nL ret rr cf g c (pc, lv, .int y :: .int x :: st) := by
  by_cases q : xc2 cd x y = true
  · exact cR_lift (fun h hh r => eE_icmp hl ht (fun _ => r) (fun z => absurd q z)) (kt q)
  · exact cR_lift (fun h hh r => eE_icmp hl ht (fun z => absurd z q) (fun _ => r)) (kf q)
theorem cR_end {i : Instr} (hl : xAt k pc i np) (he : xend i = true) (hn : pc + 1 = np) (hf : xfin ret i 1 st = some rr) : cR E Q pF d k o nL ret rr c g c (pc, lv, st) :=
  fun h hc => ⟨g, h, hc, fun _ _ => rfl, cMon_r, eE_end hl he hn hf⟩
/-- calls: of a method that lets nothing grow; of one that may -/
theorem cR_virt {idx y n cl i : Nat} {as : List Value} {r : Option Value} {st0 : List Value} {c1 : CS} (hl : xAt k pc (.invokevirtual idx) np) (hy : xmR o idx = some y) (hn : xnargs y = n) (hst : st0 = as.reverse ++ .ref (coa E cl i) :: st) (hlen : as.length = n) (hc : xcat st ≤ 8)
    (hw : xSe.contains y = true ∧ xIn.contains y = true) (hb : (xMn y).cls = (xCl cl).1) (ho : cob c cl i) (hcall : cCo E cQ1 pF d y (.ref (coa E cl i) :: as) r c1 g c) (kk : cMon c c1 → cR E Q pF d k o nL ret rr cf g c1 (np, lv, r.toList ++ st)) : cR E Q pF d k o nL ret rr cf g c (pc, lv, st0) := by
  intro h hr
  obtain ⟨g1, h1, e1, e2, e3, e4⟩ := hcall h hr
  obtain rfl := cQ1_eq e2
  obtain ⟨g', h', k1, k2, k3, k4⟩ := kk e3 h1 e1
  refine ⟨g', h', k1, k2, cMon_t e3 k3, eE_virt hl hy hn hst hlen hc hw ?_ e4 k4⟩
  rw [CRep_obj hr ho]
  have := ho.1
  have := ho.2.1
  exact ⟨hb, by show 0 < cl + 1; omega, by show cl + 1 ≤ 17; omega⟩
theorem cR_virtG {idx y n cl i : Nat} {as : List Value} {r : Option Value} {st0 : List Value} {c1 : CS} {Q2 : Nat → Bool} (hQ : ∀ x, Q x = true → Q2 x = true) (hl : xAt k pc (.invokevirtual idx) np) (hy : xmR o idx = some y) (hn : xnargs y = n) (hst : st0 = as.reverse ++ .ref (coa E cl i) :: st) (hlen : as.length = n) (hc : xcat st ≤ 8)
    (hw : xSe.contains y = true ∧ xIn.contains y = true) (hb : (xMn y).cls = (xCl cl).1) (ho : cob c cl i) (hcall : cCo E Q2 pF d y (.ref (coa E cl i) :: as) r c1 g c) (kk : cMon c c1 → ∀ g1, (∀ x, Q2 x = true → g1 x = g x) → cR E Q pF d k o nL ret rr cf g1 c1 (np, lv, r.toList ++ st)) : cR E Q pF d k o nL ret rr cf g c (pc, lv, st0) := by
  intro h hr
  obtain ⟨g1, h1, e1, e2, e3, e4⟩ := hcall h hr
  obtain ⟨g', h', k1, k2, k3, k4⟩ := kk e3 g1 e2 h1 e1
  refine ⟨g', h', k1, fun x hx => (k2 x hx).trans (e2 x (hQ x hx)), cMon_t e3 k3, eE_virt hl hy hn hst hlen hc hw ?_ e4 k4⟩
  rw [CRep_obj hr ho]
  have := ho.1
  have := ho.2.1
  exact ⟨hb, by show 0 < cl + 1; omega, by show cl + 1 ≤ 17; omega⟩
theorem cR_stat {idx y n : Nat} {as : List Value} {r : Option Value} {st0 : List Value} {c1 : CS} (hl : xAt k pc (.invokestatic idx) np) (hy : xmR o idx = some y) (hn : xnargs y = n) (hst : st0 = as.reverse ++ st) (hlen : as.length = n) (hc : xcat st ≤ 8) (hm : ¬ y = xMax ∧ ¬ y = xMin)
    (hw : xSt.contains y = true) (hcall : cCo E cQ1 pF d y as r c1 g c) (kk : cMon c c1 → cR E Q pF d k o nL ret rr cf g c1 (np, lv, r.toList ++ st)) : cR E Q pF d k o nL ret rr cf g c (pc, lv, st0) := by
  intro h hr
  obtain ⟨g1, h1, e1, e2, e3, e4⟩ := hcall h hr
  obtain rfl := cQ1_eq e2
  obtain ⟨g', h', k1, k2, k3, k4⟩ := kk e3 h1 e1
  exact ⟨g', h', k1, k2, cMon_t e3 k3, eE_stat hl hy hn hst hlen hc hm hw e4 k4⟩
theorem cCo_R {y ml n oo : Nat} {kT : xK} {bytes : ByteArray} {as : List Value} {r : Option Value} (hk : kkA y = kT) (ho : moA y = oo) (hi : decide ((xMn y).name = "<init>") = false) (hM : xM y = some (bytes, ml, ret, n)) (hlen : (lg_sl as).length ≤ ml) (hp : ∀ h, pF y as h = none)
    (hr : cR E Q pF d kT oo ml ret r cf g c (0, lv_args 0 as, [])) : cCo E Q pF (d + 1) y as r cf g c := by
  intro h hc
  obtain ⟨g', h', e1, e2, e3, e4⟩ := hr h hc
  exact ⟨g', h', e1, e2, e3, xCo_R hk ho hi hM hlen (hp h) e4⟩
end CRR
