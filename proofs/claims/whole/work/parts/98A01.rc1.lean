/-! frames in the class's memory -/
def cOwn (cl i : Nat) : Nat := if cl = 11 then i / 30 else i
def cShd (cl : Nat) : Bool := [4, 8, 14, 15].contains cl
def Sm (c c' : CS) (cl i f : Nat) : Prop := (∀ j, cI c' cl i f j = cI c cl i f j) ∧ (∀ j, cJ c' cl i f j = cJ c cl i f j) ∧ cL c' cl i f = cL c cl i f ∧ cS c' cl i f = cS c cl i f
/-- only places with these codes changed, and of servers (clients) those of one -/
def Ck (D : List Nat) (s : Nat) (c c' : CS) : Prop := ∀ cl i f, f < 32 → (32 * cl + f ∉ D ∨ (cShd cl = false ∧ cOwn cl i ≠ s)) → Sm c c' cl i f
def dj (A D : List Nat) : Bool := A.all (fun x => !D.contains x)
theorem dj_m {A D : List Nat} (h : dj A D = true) {x : Nat} (hx : x ∈ A) : x ∉ D := by
  have := List.all_eq_true.mp h x hx
  simpa using this
theorem Sm_r {c : CS} {cl i f : Nat} : Sm c c cl i f := ⟨fun _ => rfl, fun _ => rfl, rfl, rfl⟩
theorem Sm_t {c c' c2 : CS} {cl i f : Nat} (h : Sm c c' cl i f) (h' : Sm c' c2 cl i f) : Sm c c2 cl i f := ⟨fun j => (h'.1 j).trans (h.1 j), fun j => (h'.2.1 j).trans (h.2.1 j), h'.2.2.1.trans h.2.2.1, h'.2.2.2.trans h.2.2.2⟩
theorem Ck_r {s : Nat} {c : CS} : Ck [] s c c := fun _ _ _ _ _ => Sm_r
theorem Ck_w {D D' : List Nat} {s : Nat} {c c' : CS} (h : Ck D s c c') (q : ∀ x, x ∈ D → x ∈ D') : Ck D' s c c' := fun cl i f hf z => h cl i f hf (z.imp (fun y w => y (q _ w)) id)
theorem Ck_t {D D' : List Nat} {s : Nat} {c c' c2 : CS} (h : Ck D s c c') (h' : Ck D' s c' c2) : Ck (D ++ D') s c c2 := fun cl i f hf z => Sm_t (h cl i f hf (z.imp (fun y w => y (List.mem_append_left _ w)) id)) (h' cl i f hf (z.imp (fun y w => y (List.mem_append_right _ w)) id))
theorem Ck_m {c c' : CS} {cl i f s : Nat} (hs : cShd cl = true ∨ cOwn cl i = s) (h : ∀ a b x, ¬ (a = cl ∧ b = i ∧ x = f) → Sm c c' a b x) : Ck [32 * cl + f] s c c' := by
  intro a b x _ z
  refine h a b x (fun q => ?_)
  obtain ⟨rfl, rfl, rfl⟩ := q
  rcases z with z | ⟨z1, z2⟩
  · exact z List.mem_cons_self
  · rcases hs with hs | hs
    · rw [z1] at hs
      cases hs
    · exact z2 hs
theorem Ck_I {c : CS} {cl i f j s : Nat} {v : Int32} (hs : cShd cl = true ∨ cOwn cl i = s) : Ck [32 * cl + f] s c (csI c cl i f j v) := Ck_m hs (fun a b x q => ⟨fun y => if_neg (fun z => q ⟨z.1, z.2.1, z.2.2.1⟩), fun _ => rfl, rfl, rfl⟩)
theorem Ck_J {c : CS} {cl i f j s : Nat} {v : Int64} (hs : cShd cl = true ∨ cOwn cl i = s) : Ck [32 * cl + f] s c (csJ c cl i f j v) := Ck_m hs (fun a b x q => ⟨fun _ => rfl, fun y => if_neg (fun z => q ⟨z.1, z.2.1, z.2.2.1⟩), rfl, rfl⟩)
theorem Ck_A {c : CS} {cl i f s : Nat} {v : Nat → Int32} (hs : cShd cl = true ∨ cOwn cl i = s) : Ck [32 * cl + f] s c (csA c cl i f v) := Ck_m hs (fun a b x q => ⟨fun y => if_neg q, fun _ => rfl, rfl, rfl⟩)
theorem Ck_G {c : CS} {cl i f n s : Nat} {v : Nat → Int32} (hs : cShd cl = true ∨ cOwn cl i = s) : Ck [32 * cl + f] s c (csG c cl i f n v) := Ck_m hs (fun a b x q => ⟨fun y => if_neg q, fun _ => rfl, if_neg q, rfl⟩)
theorem Ck_S {c : CS} {cl i f n s : Nat} {l : List Nat} {T : Nat × Nat} (hs : cShd cl = true ∨ cOwn cl i = s) : Ck [32 * cl + f] s c (csS c cl i f l n T) := Ck_m hs (fun a b x q => ⟨fun y => if_neg (fun z => q ⟨z.1, z.2.1, z.2.2.1⟩), fun _ => rfl, if_neg q, if_neg q⟩)
def KFr (c : CS) (s : Nat) (x : Int32) : Prop := cI c 6 s 7 0 = x
def KIc (c : CS) (k : Nat) : Prop := cI c 5 k 0 0 = Int32.ofNat (8 + k)

theorem KFr_fr {D : List Nat} {o : Nat} {c c' : CS} {s : Nat} {x : Int32} (h : Ck D o c c') (q : dj [199] D = true) (y0 : KFr c s x) : KFr c' s x := by
  have e0 : Sm c c' 6 s 7 := h 6 s 7 (by decide) (Or.inl (dj_m q (x := 199) (by decide)))
  unfold KFr at y0 ⊢
  simp only [e0.1, e0.2.1, e0.2.2.1]
  exact y0
theorem KFr_ne {D : List Nat} {o : Nat} {c c' : CS} {s : Nat} {x : Int32} (h : Ck D o c c') (q : dj [] D = true) (hne : s ≠ o) (y0 : KFr c s x) : KFr c' s x := by
  have e0 : Sm c c' 6 s 7 := h 6 s 7 (by decide) (Or.inr ⟨rfl, hne⟩)
  unfold KFr at y0 ⊢
  simp only [e0.1, e0.2.1, e0.2.2.1]
  exact y0
theorem KHd_fr {D : List Nat} {o : Nat} {c c' : CS} {s : Nat} {x : Int32} (h : Ck D o c c') (q : dj [430] D = true) (y0 : KHd c s x) : KHd c' s x := by
  have e0 : Sm c c' 13 s 14 := h 13 s 14 (by decide) (Or.inl (dj_m q (x := 430) (by decide)))
  unfold KHd at y0 ⊢
  simp only [e0.1, e0.2.1, e0.2.2.1]
  exact y0
theorem KHd_ne {D : List Nat} {o : Nat} {c c' : CS} {s : Nat} {x : Int32} (h : Ck D o c c') (q : dj [] D = true) (hne : s ≠ o) (y0 : KHd c s x) : KHd c' s x := by
  have e0 : Sm c c' 13 s 14 := h 13 s 14 (by decide) (Or.inr ⟨rfl, hne⟩)
  unfold KHd at y0 ⊢
  simp only [e0.1, e0.2.1, e0.2.2.1]
  exact y0
theorem KLd_fr {D : List Nat} {o : Nat} {c c' : CS} {a : AA} {s : Nat} (h : Ck D o c c') (q : dj [224, 225, 226, 227, 228, 229, 230, 231, 232, 233] D = true) (y0 : KLd c a s) : KLd c' a s := by
  have e0 : Sm c c' 7 s 0 := h 7 s 0 (by decide) (Or.inl (dj_m q (x := 224) (by decide)))
  have e1 : Sm c c' 7 s 1 := h 7 s 1 (by decide) (Or.inl (dj_m q (x := 225) (by decide)))
  have e2 : Sm c c' 7 s 2 := h 7 s 2 (by decide) (Or.inl (dj_m q (x := 226) (by decide)))
  have e3 : Sm c c' 7 s 3 := h 7 s 3 (by decide) (Or.inl (dj_m q (x := 227) (by decide)))
  have e4 : Sm c c' 7 s 4 := h 7 s 4 (by decide) (Or.inl (dj_m q (x := 228) (by decide)))
  have e5 : Sm c c' 7 s 5 := h 7 s 5 (by decide) (Or.inl (dj_m q (x := 229) (by decide)))
  have e6 : Sm c c' 7 s 6 := h 7 s 6 (by decide) (Or.inl (dj_m q (x := 230) (by decide)))
  have e7 : Sm c c' 7 s 7 := h 7 s 7 (by decide) (Or.inl (dj_m q (x := 231) (by decide)))
  have e8 : Sm c c' 7 s 8 := h 7 s 8 (by decide) (Or.inl (dj_m q (x := 232) (by decide)))
  have e9 : Sm c c' 7 s 9 := h 7 s 9 (by decide) (Or.inl (dj_m q (x := 233) (by decide)))
  unfold KLd at y0 ⊢
  simp only [e0.1, e0.2.1, e0.2.2.1, e1.1, e1.2.1, e1.2.2.1, e2.1, e2.2.1, e2.2.2.1, e3.1, e3.2.1, e3.2.2.1, e4.1, e4.2.1, e4.2.2.1, e5.1, e5.2.1, e5.2.2.1, e6.1, e6.2.1, e6.2.2.1, e7.1, e7.2.1, e7.2.2.1, e8.1, e8.2.1, e8.2.2.1, e9.1, e9.2.1, e9.2.2.1]
  exact y0
theorem KLd_ne {D : List Nat} {o : Nat} {c c' : CS} {a : AA} {s : Nat} (h : Ck D o c c') (q : dj [] D = true) (hne : s ≠ o) (y0 : KLd c a s) : KLd c' a s := by
  have e0 : Sm c c' 7 s 0 := h 7 s 0 (by decide) (Or.inr ⟨rfl, hne⟩)
  have e1 : Sm c c' 7 s 1 := h 7 s 1 (by decide) (Or.inr ⟨rfl, hne⟩)
  have e2 : Sm c c' 7 s 2 := h 7 s 2 (by decide) (Or.inr ⟨rfl, hne⟩)
  have e3 : Sm c c' 7 s 3 := h 7 s 3 (by decide) (Or.inr ⟨rfl, hne⟩)
  have e4 : Sm c c' 7 s 4 := h 7 s 4 (by decide) (Or.inr ⟨rfl, hne⟩)
  have e5 : Sm c c' 7 s 5 := h 7 s 5 (by decide) (Or.inr ⟨rfl, hne⟩)
  have e6 : Sm c c' 7 s 6 := h 7 s 6 (by decide) (Or.inr ⟨rfl, hne⟩)
  have e7 : Sm c c' 7 s 7 := h 7 s 7 (by decide) (Or.inr ⟨rfl, hne⟩)
  have e8 : Sm c c' 7 s 8 := h 7 s 8 (by decide) (Or.inr ⟨rfl, hne⟩)
  have e9 : Sm c c' 7 s 9 := h 7 s 9 (by decide) (Or.inr ⟨rfl, hne⟩)
  unfold KLd at y0 ⊢
  simp only [e0.1, e0.2.1, e0.2.2.1, e1.1, e1.2.1, e1.2.2.1, e2.1, e2.2.1, e2.2.2.1, e3.1, e3.2.1, e3.2.2.1, e4.1, e4.2.1, e4.2.2.1, e5.1, e5.2.1, e5.2.2.1, e6.1, e6.2.1, e6.2.2.1, e7.1, e7.2.1, e7.2.2.1, e8.1, e8.2.1, e8.2.2.1, e9.1, e9.2.1, e9.2.2.1]
  exact y0
theorem KRq_fr {D : List Nat} {o : Nat} {c c' : CS} {s : Nat} {n : Int32} {rq : List AQ} (h : Ck D o c c') (q : dj [384, 385, 386, 387, 388, 389, 390, 392] D = true) (y0 : KRq c s n rq) : KRq c' s n rq := by
  have e0 : Sm c c' 12 s 0 := h 12 s 0 (by decide) (Or.inl (dj_m q (x := 384) (by decide)))
  have e1 : Sm c c' 12 s 1 := h 12 s 1 (by decide) (Or.inl (dj_m q (x := 385) (by decide)))
  have e2 : Sm c c' 12 s 2 := h 12 s 2 (by decide) (Or.inl (dj_m q (x := 386) (by decide)))
  have e3 : Sm c c' 12 s 3 := h 12 s 3 (by decide) (Or.inl (dj_m q (x := 387) (by decide)))
  have e4 : Sm c c' 12 s 4 := h 12 s 4 (by decide) (Or.inl (dj_m q (x := 388) (by decide)))
  have e5 : Sm c c' 12 s 5 := h 12 s 5 (by decide) (Or.inl (dj_m q (x := 389) (by decide)))
  have e6 : Sm c c' 12 s 6 := h 12 s 6 (by decide) (Or.inl (dj_m q (x := 390) (by decide)))
  have e7 : Sm c c' 12 s 8 := h 12 s 8 (by decide) (Or.inl (dj_m q (x := 392) (by decide)))
  unfold KRq KRq1 at y0 ⊢
  simp only [e0.1, e0.2.1, e0.2.2.1, e1.1, e1.2.1, e1.2.2.1, e2.1, e2.2.1, e2.2.2.1, e3.1, e3.2.1, e3.2.2.1, e4.1, e4.2.1, e4.2.2.1, e5.1, e5.2.1, e5.2.2.1, e6.1, e6.2.1, e6.2.2.1, e7.1, e7.2.1, e7.2.2.1]
  exact y0
theorem KRq_ne {D : List Nat} {o : Nat} {c c' : CS} {s : Nat} {n : Int32} {rq : List AQ} (h : Ck D o c c') (q : dj [] D = true) (hne : s ≠ o) (y0 : KRq c s n rq) : KRq c' s n rq := by
  have e0 : Sm c c' 12 s 0 := h 12 s 0 (by decide) (Or.inr ⟨rfl, hne⟩)
  have e1 : Sm c c' 12 s 1 := h 12 s 1 (by decide) (Or.inr ⟨rfl, hne⟩)
  have e2 : Sm c c' 12 s 2 := h 12 s 2 (by decide) (Or.inr ⟨rfl, hne⟩)
  have e3 : Sm c c' 12 s 3 := h 12 s 3 (by decide) (Or.inr ⟨rfl, hne⟩)
  have e4 : Sm c c' 12 s 4 := h 12 s 4 (by decide) (Or.inr ⟨rfl, hne⟩)
  have e5 : Sm c c' 12 s 5 := h 12 s 5 (by decide) (Or.inr ⟨rfl, hne⟩)
  have e6 : Sm c c' 12 s 6 := h 12 s 6 (by decide) (Or.inr ⟨rfl, hne⟩)
  have e7 : Sm c c' 12 s 8 := h 12 s 8 (by decide) (Or.inr ⟨rfl, hne⟩)
  unfold KRq KRq1 at y0 ⊢
  simp only [e0.1, e0.2.1, e0.2.2.1, e1.1, e1.2.1, e1.2.2.1, e2.1, e2.2.1, e2.2.2.1, e3.1, e3.2.1, e3.2.2.1, e4.1, e4.2.1, e4.2.2.1, e5.1, e5.2.1, e5.2.2.1, e6.1, e6.2.1, e6.2.2.1, e7.1, e7.2.1, e7.2.2.1]
  exact y0
theorem KBl_fr {D : List Nat} {o : Nat} {c c' : CS} {a : AA} (h : Ck D o c c') (q : dj [458, 459] D = true) (y0 : KBl c a) : KBl c' a := by
  have e0 : Sm c c' 14 0 10 := h 14 0 10 (by decide) (Or.inl (dj_m q (x := 458) (by decide)))
  have e1 : Sm c c' 14 0 11 := h 14 0 11 (by decide) (Or.inl (dj_m q (x := 459) (by decide)))
  unfold KBl at y0 ⊢
  simp only [e0.1, e0.2.1, e0.2.2.1, e1.1, e1.2.1, e1.2.2.1]
  exact y0
theorem KDa_fr {D : List Nat} {o : Nat} {c c' : CS} {a : AA} (h : Ck D o c c') (q : dj [460, 461, 462, 457] D = true) (y0 : KDa c a) : KDa c' a := by
  have e0 : Sm c c' 14 0 12 := h 14 0 12 (by decide) (Or.inl (dj_m q (x := 460) (by decide)))
  have e1 : Sm c c' 14 0 13 := h 14 0 13 (by decide) (Or.inl (dj_m q (x := 461) (by decide)))
  have e2 : Sm c c' 14 0 14 := h 14 0 14 (by decide) (Or.inl (dj_m q (x := 462) (by decide)))
  have e3 : Sm c c' 14 0 9 := h 14 0 9 (by decide) (Or.inl (dj_m q (x := 457) (by decide)))
  unfold KDa at y0 ⊢
  simp only [e0.1, e0.2.1, e0.2.2.1, e1.1, e1.2.1, e1.2.2.1, e2.1, e2.2.1, e2.2.2.1, e3.1, e3.2.1, e3.2.2.1]
  exact y0
theorem KLw_fr {D : List Nat} {o : Nat} {c c' : CS} {a : AA} {s : Nat} (h : Ck D o c c') (q : dj [194] D = true) (y0 : KLw c a s) : KLw c' a s := by
  have e0 : Sm c c' 6 s 2 := h 6 s 2 (by decide) (Or.inl (dj_m q (x := 194) (by decide)))
  unfold KLw at y0 ⊢
  simp only [e0.1, e0.2.1, e0.2.2.1]
  exact y0
theorem KLw_ne {D : List Nat} {o : Nat} {c c' : CS} {a : AA} {s : Nat} (h : Ck D o c c') (q : dj [] D = true) (hne : s ≠ o) (y0 : KLw c a s) : KLw c' a s := by
  have e0 : Sm c c' 6 s 2 := h 6 s 2 (by decide) (Or.inr ⟨rfl, hne⟩)
  unfold KLw at y0 ⊢
  simp only [e0.1, e0.2.1, e0.2.2.1]
  exact y0
theorem KG_fr {D : List Nat} {o : Nat} {c c' : CS} {s : Nat} {g : List AE} (h : Ck D o c c') (q : dj [289] D = true) (y0 : KG c s g) : KG c' s g := by
  have e0 : Sm c c' 9 s 1 := h 9 s 1 (by decide) (Or.inl (dj_m q (x := 289) (by decide)))
  unfold KG at y0 ⊢
  simp only [e0.1, e0.2.1, e0.2.2.1]
  exact y0
theorem KG_ne {D : List Nat} {o : Nat} {c c' : CS} {s : Nat} {g : List AE} (h : Ck D o c c') (q : dj [] D = true) (hne : s ≠ o) (y0 : KG c s g) : KG c' s g := by
  have e0 : Sm c c' 9 s 1 := h 9 s 1 (by decide) (Or.inr ⟨rfl, hne⟩)
  unfold KG at y0 ⊢
  simp only [e0.1, e0.2.1, e0.2.2.1]
  exact y0
theorem KCh_fr {D : List Nat} {o : Nat} {c c' : CS} {s : Nat} {ch : List Nat} (h : Ck D o c c') (q : dj [196, 197] D = true) (y0 : KCh c s ch) : KCh c' s ch := by
  have e0 : Sm c c' 6 s 4 := h 6 s 4 (by decide) (Or.inl (dj_m q (x := 196) (by decide)))
  have e1 : Sm c c' 6 s 5 := h 6 s 5 (by decide) (Or.inl (dj_m q (x := 197) (by decide)))
  unfold KCh at y0 ⊢
  simp only [e0.1, e0.2.1, e0.2.2.1, e1.1, e1.2.1, e1.2.2.1]
  exact y0
theorem KCh_ne {D : List Nat} {o : Nat} {c c' : CS} {s : Nat} {ch : List Nat} (h : Ck D o c c') (q : dj [] D = true) (hne : s ≠ o) (y0 : KCh c s ch) : KCh c' s ch := by
  have e0 : Sm c c' 6 s 4 := h 6 s 4 (by decide) (Or.inr ⟨rfl, hne⟩)
  have e1 : Sm c c' 6 s 5 := h 6 s 5 (by decide) (Or.inr ⟨rfl, hne⟩)
  unfold KCh at y0 ⊢
  simp only [e0.1, e0.2.1, e0.2.2.1, e1.1, e1.2.1, e1.2.2.1]
  exact y0
theorem KMc_fr {D : List Nat} {o : Nat} {c c' : CS} {s : Nat} {M : AM} (h : Ck D o c c') (q : dj [321, 322, 323, 324, 325, 326, 327, 328, 329] D = true) (y0 : KMc c s M) : KMc c' s M := by
  have e0 : Sm c c' 10 s 1 := h 10 s 1 (by decide) (Or.inl (dj_m q (x := 321) (by decide)))
  have e1 : Sm c c' 10 s 2 := h 10 s 2 (by decide) (Or.inl (dj_m q (x := 322) (by decide)))
  have e2 : Sm c c' 10 s 3 := h 10 s 3 (by decide) (Or.inl (dj_m q (x := 323) (by decide)))
  have e3 : Sm c c' 10 s 4 := h 10 s 4 (by decide) (Or.inl (dj_m q (x := 324) (by decide)))
  have e4 : Sm c c' 10 s 5 := h 10 s 5 (by decide) (Or.inl (dj_m q (x := 325) (by decide)))
  have e5 : Sm c c' 10 s 6 := h 10 s 6 (by decide) (Or.inl (dj_m q (x := 326) (by decide)))
  have e6 : Sm c c' 10 s 7 := h 10 s 7 (by decide) (Or.inl (dj_m q (x := 327) (by decide)))
  have e7 : Sm c c' 10 s 8 := h 10 s 8 (by decide) (Or.inl (dj_m q (x := 328) (by decide)))
  have e8 : Sm c c' 10 s 9 := h 10 s 9 (by decide) (Or.inl (dj_m q (x := 329) (by decide)))
  unfold KMc KM0 at y0 ⊢
  simp only [e0.1, e0.2.1, e0.2.2.1, e1.1, e1.2.1, e1.2.2.1, e2.1, e2.2.1, e2.2.2.1, e3.1, e3.2.1, e3.2.2.1, e4.1, e4.2.1, e4.2.2.1, e5.1, e5.2.1, e5.2.2.1, e6.1, e6.2.1, e6.2.2.1, e7.1, e7.2.1, e7.2.2.1, e8.1, e8.2.1, e8.2.2.1]
  exact y0
theorem KMc_ne {D : List Nat} {o : Nat} {c c' : CS} {s : Nat} {M : AM} (h : Ck D o c c') (q : dj [] D = true) (hne : s ≠ o) (y0 : KMc c s M) : KMc c' s M := by
  have e0 : Sm c c' 10 s 1 := h 10 s 1 (by decide) (Or.inr ⟨rfl, hne⟩)
  have e1 : Sm c c' 10 s 2 := h 10 s 2 (by decide) (Or.inr ⟨rfl, hne⟩)
  have e2 : Sm c c' 10 s 3 := h 10 s 3 (by decide) (Or.inr ⟨rfl, hne⟩)
  have e3 : Sm c c' 10 s 4 := h 10 s 4 (by decide) (Or.inr ⟨rfl, hne⟩)
  have e4 : Sm c c' 10 s 5 := h 10 s 5 (by decide) (Or.inr ⟨rfl, hne⟩)
  have e5 : Sm c c' 10 s 6 := h 10 s 6 (by decide) (Or.inr ⟨rfl, hne⟩)
  have e6 : Sm c c' 10 s 7 := h 10 s 7 (by decide) (Or.inr ⟨rfl, hne⟩)
  have e7 : Sm c c' 10 s 8 := h 10 s 8 (by decide) (Or.inr ⟨rfl, hne⟩)
  have e8 : Sm c c' 10 s 9 := h 10 s 9 (by decide) (Or.inr ⟨rfl, hne⟩)
  unfold KMc KM0 at y0 ⊢
  simp only [e0.1, e0.2.1, e0.2.2.1, e1.1, e1.2.1, e1.2.2.1, e2.1, e2.2.1, e2.2.2.1, e3.1, e3.2.1, e3.2.2.1, e4.1, e4.2.1, e4.2.2.1, e5.1, e5.2.1, e5.2.2.1, e6.1, e6.2.1, e6.2.2.1, e7.1, e7.2.1, e7.2.2.1, e8.1, e8.2.1, e8.2.2.1]
  exact y0
theorem KPc_fr {D : List Nat} {o : Nat} {c c' : CS} {s : Nat} {x y : Int32} {M : AM} (h : Ck D o c c') (q : dj [433, 434] D = true) (y0 : KPc c s x y M) : KPc c' s x y M := by
  have e0 : Sm c c' 13 s 17 := h 13 s 17 (by decide) (Or.inl (dj_m q (x := 433) (by decide)))
  have e1 : Sm c c' 13 s 18 := h 13 s 18 (by decide) (Or.inl (dj_m q (x := 434) (by decide)))
  unfold KPc at y0 ⊢
  simp only [e0.1, e0.2.1, e0.2.2.1, e1.1, e1.2.1, e1.2.2.1]
  exact y0
theorem KPc_ne {D : List Nat} {o : Nat} {c c' : CS} {s : Nat} {x y : Int32} {M : AM} (h : Ck D o c c') (q : dj [] D = true) (hne : s ≠ o) (y0 : KPc c s x y M) : KPc c' s x y M := by
  have e0 : Sm c c' 13 s 17 := h 13 s 17 (by decide) (Or.inr ⟨rfl, hne⟩)
  have e1 : Sm c c' 13 s 18 := h 13 s 18 (by decide) (Or.inr ⟨rfl, hne⟩)
  unfold KPc at y0 ⊢
  simp only [e0.1, e0.2.1, e0.2.2.1, e1.1, e1.2.1, e1.2.2.1]
  exact y0
theorem KCl_fr {D : List Nat} {o : Nat} {c c' : CS} {k : Nat} {b x y z : Int32} (h : Ck D o c c') (q : dj [169, 170, 171] D = true) (y0 : KCl c k b x y z) : KCl c' k b x y z := by
  have e0 : Sm c c' 5 k 9 := h 5 k 9 (by decide) (Or.inl (dj_m q (x := 169) (by decide)))
  have e1 : Sm c c' 5 k 10 := h 5 k 10 (by decide) (Or.inl (dj_m q (x := 170) (by decide)))
  have e2 : Sm c c' 5 k 11 := h 5 k 11 (by decide) (Or.inl (dj_m q (x := 171) (by decide)))
  unfold KCl at y0 ⊢
  simp only [e0.1, e0.2.1, e0.2.2.1, e1.1, e1.2.1, e1.2.2.1, e2.1, e2.2.1, e2.2.2.1]
  exact y0
theorem KCl_ne {D : List Nat} {o : Nat} {c c' : CS} {k : Nat} {b x y z : Int32} (h : Ck D o c c') (q : dj [] D = true) (hne : k ≠ o) (y0 : KCl c k b x y z) : KCl c' k b x y z := by
  have e0 : Sm c c' 5 k 9 := h 5 k 9 (by decide) (Or.inr ⟨rfl, hne⟩)
  have e1 : Sm c c' 5 k 10 := h 5 k 10 (by decide) (Or.inr ⟨rfl, hne⟩)
  have e2 : Sm c c' 5 k 11 := h 5 k 11 (by decide) (Or.inr ⟨rfl, hne⟩)
  unfold KCl at y0 ⊢
  simp only [e0.1, e0.2.1, e0.2.2.1, e1.1, e1.2.1, e1.2.2.1, e2.1, e2.2.1, e2.2.2.1]
  exact y0
theorem KDn_fr {D : List Nat} {o : Nat} {c c' : CS} {k : Nat} {t : List Int32} (h : Ck D o c c') (q : dj [172, 173] D = true) (y0 : KDn c k t) : KDn c' k t := by
  have e0 : Sm c c' 5 k 12 := h 5 k 12 (by decide) (Or.inl (dj_m q (x := 172) (by decide)))
  have e1 : Sm c c' 5 k 13 := h 5 k 13 (by decide) (Or.inl (dj_m q (x := 173) (by decide)))
  unfold KDn at y0 ⊢
  simp only [e0.1, e0.2.1, e0.2.2.1, e1.1, e1.2.1, e1.2.2.1]
  exact y0
theorem KDn_ne {D : List Nat} {o : Nat} {c c' : CS} {k : Nat} {t : List Int32} (h : Ck D o c c') (q : dj [] D = true) (hne : k ≠ o) (y0 : KDn c k t) : KDn c' k t := by
  have e0 : Sm c c' 5 k 12 := h 5 k 12 (by decide) (Or.inr ⟨rfl, hne⟩)
  have e1 : Sm c c' 5 k 13 := h 5 k 13 (by decide) (Or.inr ⟨rfl, hne⟩)
  unfold KDn at y0 ⊢
  simp only [e0.1, e0.2.1, e0.2.2.1, e1.1, e1.2.1, e1.2.2.1]
  exact y0
theorem KAk_fr {D : List Nat} {o : Nat} {c c' : CS} {K : List AK} (h : Ck D o c c') (q : dj [128, 130, 131, 132] D = true) (y0 : KAk c K) : KAk c' K := by
  have e0 : Sm c c' 4 0 0 := h 4 0 0 (by decide) (Or.inl (dj_m q (x := 128) (by decide)))
  have e1 : Sm c c' 4 0 2 := h 4 0 2 (by decide) (Or.inl (dj_m q (x := 130) (by decide)))
  have e2 : Sm c c' 4 0 3 := h 4 0 3 (by decide) (Or.inl (dj_m q (x := 131) (by decide)))
  have e3 : Sm c c' 4 0 4 := h 4 0 4 (by decide) (Or.inl (dj_m q (x := 132) (by decide)))
  unfold KAk at y0 ⊢
  simp only [e0.1, e0.2.1, e0.2.2.1, e1.1, e1.2.1, e1.2.2.1, e2.1, e2.2.1, e2.2.2.1, e3.1, e3.2.1, e3.2.2.1]
  exact y0
theorem KFc_fr {D : List Nat} {o : Nat} {c c' : CS} {t r : List Int32} (h : Ck D o c c') (q : dj [484, 485, 486, 487] D = true) (y0 : KFc c t r) : KFc c' t r := by
  have e0 : Sm c c' 15 0 4 := h 15 0 4 (by decide) (Or.inl (dj_m q (x := 484) (by decide)))
  have e1 : Sm c c' 15 0 5 := h 15 0 5 (by decide) (Or.inl (dj_m q (x := 485) (by decide)))
  have e2 : Sm c c' 15 0 6 := h 15 0 6 (by decide) (Or.inl (dj_m q (x := 486) (by decide)))
  have e3 : Sm c c' 15 0 7 := h 15 0 7 (by decide) (Or.inl (dj_m q (x := 487) (by decide)))
  unfold KFc at y0 ⊢
  simp only [e0.1, e0.2.1, e0.2.2.1, e1.1, e1.2.1, e1.2.2.1, e2.1, e2.2.1, e2.2.2.1, e3.1, e3.2.1, e3.2.2.1]
  exact y0
theorem KId_fr {D : List Nat} {o : Nat} {c c' : CS} {s : Nat} {x d : Int32} (h : Ck D o c c') (q : dj [416, 288, 435] D = true) (y0 : KId c s x d) : KId c' s x d := by
  have e0 : Sm c c' 13 s 0 := h 13 s 0 (by decide) (Or.inl (dj_m q (x := 416) (by decide)))
  have e1 : Sm c c' 9 s 0 := h 9 s 0 (by decide) (Or.inl (dj_m q (x := 288) (by decide)))
  have e2 : Sm c c' 13 s 19 := h 13 s 19 (by decide) (Or.inl (dj_m q (x := 435) (by decide)))
  unfold KId at y0 ⊢
  simp only [e0.1, e0.2.1, e0.2.2.1, e1.1, e1.2.1, e1.2.2.1, e2.1, e2.2.1, e2.2.2.1]
  exact y0
theorem KId_ne {D : List Nat} {o : Nat} {c c' : CS} {s : Nat} {x d : Int32} (h : Ck D o c c') (q : dj [] D = true) (hne : s ≠ o) (y0 : KId c s x d) : KId c' s x d := by
  have e0 : Sm c c' 13 s 0 := h 13 s 0 (by decide) (Or.inr ⟨rfl, hne⟩)
  have e1 : Sm c c' 9 s 0 := h 9 s 0 (by decide) (Or.inr ⟨rfl, hne⟩)
  have e2 : Sm c c' 13 s 19 := h 13 s 19 (by decide) (Or.inr ⟨rfl, hne⟩)
  unfold KId at y0 ⊢
  simp only [e0.1, e0.2.1, e0.2.2.1, e1.1, e1.2.1, e1.2.2.1, e2.1, e2.2.1, e2.2.2.1]
  exact y0
theorem KIc_fr {D : List Nat} {o : Nat} {c c' : CS} {k : Nat} (h : Ck D o c c') (q : dj [160] D = true) (y0 : KIc c k) : KIc c' k := by
  have e0 : Sm c c' 5 k 0 := h 5 k 0 (by decide) (Or.inl (dj_m q (x := 160) (by decide)))
  unfold KIc at y0 ⊢
  simp only [e0.1, e0.2.1, e0.2.2.1]
  exact y0
theorem KIc_ne {D : List Nat} {o : Nat} {c c' : CS} {k : Nat} (h : Ck D o c c') (q : dj [] D = true) (hne : k ≠ o) (y0 : KIc c k) : KIc c' k := by
  have e0 : Sm c c' 5 k 0 := h 5 k 0 (by decide) (Or.inr ⟨rfl, hne⟩)
  unfold KIc at y0 ⊢
  simp only [e0.1, e0.2.1, e0.2.2.1]
  exact y0
