/-! the log is cut: removed files, their order -/
theorem aChS_same {a : AA} {s : Nat} : aChS a s (aCh a s) = a := by
  have : aU (aCh a) s (aCh a s) = aCh a := by
    funext t
    show (if t = s then aCh a s else aCh a t) = _
    by_cases q : t = s
    · rw [if_pos q, q]
    · rw [if_neg q]
  unfold aChS
  rw [this]
  rfl
def aChW (a : AA) (w : Nat → List Nat) : AA := (a.1, aWay a, aWt a, aLg a, aMc a, aSh a, aPm a, aFc a, aFk a, w, a.2.2.2.2.2.2.2.2.2.2)
theorem aChS_chS {a : AA} {s : Nat} {c d : List Nat} : aChS (aChS a s c) s d = aChS a s d := by
  have : aU (aU (aCh a) s c) s d = aU (aCh a) s d := by
    funext t
    show (if t = s then d else (if t = s then c else aCh a t)) = (if t = s then d else aCh a t)
    by_cases q : t = s
    · rw [if_pos q, if_pos q]
    · rw [if_neg q, if_neg q, if_neg q]
  exact congrArg (aChW a) this
def aFcW (a : AA) (w : Nat → Nat → AF) : AA := (a.1, aWay a, aWt a, aLg a, aMc a, aSh a, aPm a, w, a.2.2.2.2.2.2.2.2)
theorem aRemove_ch {b : AA} {s f : Nat} {c : List Nat} : aRemove (aChS b s c) s f = aChS (aRemove b s f) s c := rfl
theorem aPut_I {a : AA} {s f g i : Nat} {v : Int32} {F : AF} : aPut (aI a g i v) s f F = aI (aPut a s f F) g i v := rfl
theorem aPut_comm {a : AA} {s f g : Nat} {F G : AF} (h : f ≠ g) : aPut (aPut a s f F) s g G = aPut (aPut a s g G) s f F := by
  have e : ∀ (x y : Nat) (X Y : AF), aU (aFc (aPut a s x X)) s (aU (aFc (aPut a s x X) s) y Y) = aU (aFc a) s (aU (aU (aFc a s) x X) y Y) := by
    intro x y X Y
    funext t
    show (if t = s then aU (aFc (aPut a s x X) s) y Y else (if t = s then aU (aFc a s) x X else aFc a t)) = (if t = s then aU (aU (aFc a s) x X) y Y else aFc a t)
    by_cases q : t = s
    · rw [if_pos q, if_pos q]
      have : aFc (aPut a s x X) s = aU (aFc a s) x X := if_pos rfl
      rw [this]
    · rw [if_neg q, if_neg q, if_neg q]
  have e2 : aU (aU (aFc a s) f F) g G = aU (aU (aFc a s) g G) f F := by
    funext x
    show (if x = g then G else (if x = f then F else aFc a s x)) = (if x = f then F else (if x = g then G else aFc a s x))
    by_cases q : x = g
    · rw [if_pos q, if_pos q, if_neg (fun z => h (z.symm.trans q))]
    · rw [if_neg q, if_neg q]
  have e3 := (e f g F G).trans ((congrArg (aU (aFc a) s) e2).trans (e g f G F).symm)
  exact congrArg (aFcW a) e3
theorem aRemove_comm {a : AA} {s f g : Nat} (h : f ≠ g) : aRemove (aRemove a s f) s g = aRemove (aRemove a s g) s f := by
  have e : ∀ (b : AA) (x y : Nat), x ≠ y → aFc (aRemove b s x) s y = aFc b s y := by
    intro b x y hxy
    refine aFc_put.trans ?_
    rw [if_neg (fun z => hxy z.2.symm)]
  have r : ∀ (b : AA) (x : Nat), aRemove b s x = aI (aPut b s x (aU (aU (aFc b s x).1 0 0) 1 0, (aFc b s x).2)) 43 (16 * s + x) 0 := fun _ _ => rfl
  rw [r (aRemove a s f) g, e a f g h, r (aRemove a s g) f, e a g f (fun z => h z.symm), r a f, r a g]
  rw [aPut_I, aPut_I, aPut_comm h]
  rw [aI_comm (f := 43) (g := 43) (by omega)]
theorem rmAll_in {s x : Nat} : ∀ (r : List Nat) (a : AA), x ∉ r → aRemove (aRemoveAll a s r) s x = aRemoveAll (aRemove a s x) s r := by
  intro r
  induction r with
  | nil => exact fun _ _ => rfl
  | cons y r ih =>
    intro a hx
    show aRemove (aRemoveAll (aRemove a s y) s r) s x = aRemoveAll (aRemove (aRemove a s x) s y) s r
    rw [ih (aRemove a s y) (fun z => hx (List.mem_cons_of_mem _ z)), aRemove_comm (fun z => hx (by rw [z]; exact List.mem_cons_self))]
theorem rmAll_rev {s : Nat} : ∀ (l : List Nat) (a : AA), l.Nodup → aRemoveAll a s l.reverse = aRemoveAll a s l := by
  intro l
  induction l with
  | nil => exact fun _ _ => rfl
  | cons x r ih =>
    intro a hn
    obtain ⟨n1, n2⟩ := List.nodup_cons.mp hn
    rw [List.reverse_cons, rmAll_app, ih a n2, rmAll_in r a n1]
    rfl
/-- marks are in order again -/
theorem RM_on14 {σ : RS} {a : AA} {u : AU} {s : Nat} (h : RM σ a (u.1, fun x => u.2 x ∧ x ≠ 14 + s)) (hs : s < 7) (hw : u.2 (14 + s) → WMk a s) : RM σ a u := by
  obtain ⟨h0, h1, h2, h3, h4, h5, h6, h7, h8, h9, h10, h11, h12, h13, h14, h15, h16, h17, h18, h19, h20, h21, h22, h23⟩ := h
  refine ⟨h0, h1, h2, h3, h4, h5, h6, h7, h8, h9, h10, h11, h12, h13, h14, h15, h16, h17, h18, h19, h20, fun t ht z hu => h21 t ht ⟨z, by omega⟩ hu, fun t ht z => ?_, fun t ht z hr => h23 t ht ⟨z, by omega⟩ hr⟩
  by_cases q : t = s
  · rw [q] at z ⊢
    exact hw z
  · exact h22 t ht ⟨z, by omega⟩
