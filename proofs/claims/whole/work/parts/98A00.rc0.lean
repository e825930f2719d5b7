/-! the class's memory against the agreed store: sums, rows of two lists -/
def sumN (f : Nat → Nat) : Nat → Nat
  | 0 => 0
  | n + 1 => sumN f n + f n
theorem sumN_eq {f g : Nat → Nat} : ∀ n, (∀ i, i < n → f i = g i) → sumN f n = sumN g n := by
  intro n
  induction n with
  | zero => exact fun _ => rfl
  | succ n ih =>
    intro h
    show sumN f n + f n = sumN g n + g n
    rw [ih (fun i hi => h i (by omega)), h n (by omega)]
theorem sumN_le {f g : Nat → Nat} : ∀ n, (∀ i, i < n → f i ≤ g i) → sumN f n ≤ sumN g n := by
  intro n
  induction n with
  | zero => exact fun _ => Nat.le_refl _
  | succ n ih =>
    intro h
    have h1 := ih (fun i hi => h i (by omega))
    have h2 := h n (by omega)
    show sumN f n + f n ≤ sumN g n + g n
    omega
theorem sumN_upd {f g : Nat → Nat} {s : Nat} : ∀ n, s < n → (∀ i, i < n → i ≠ s → f i = g i) → sumN f n + g s = sumN g n + f s := by
  intro n
  induction n with
  | zero => intro h; omega
  | succ n ih =>
    intro hs h
    show sumN f n + f n + g s = sumN g n + g n + f s
    by_cases q : s = n
    · subst q
      have := sumN_eq s (fun i hi => h i (by omega) (by omega))
      omega
    · have := ih (by omega) (fun i hi hne => h i (by omega) hne)
      have := h n (by omega) (fun z => q z.symm)
      omega
def F2 {α β : Type} (R : α → β → Prop) : List α → List β → Prop
  | [], [] => True
  | x :: xs, y :: ys => R x y ∧ F2 R xs ys
  | _, _ => False
theorem F2_len {α β : Type} {R : α → β → Prop} : ∀ {xs : List α} {ys : List β}, F2 R xs ys → xs.length = ys.length
  | [], [], _ => rfl
  | x :: xs, y :: ys, h => by rw [List.length_cons, List.length_cons, F2_len h.2]
theorem F2_mono {α β : Type} {R R' : α → β → Prop} : ∀ {xs : List α} {ys : List β}, (∀ x ∈ xs, ∀ y, R x y → R' x y) → F2 R xs ys → F2 R' xs ys
  | [], [], _, h => h
  | x :: xs, y :: ys, k, h => ⟨k x List.mem_cons_self y h.1, F2_mono (fun z hz => k z (List.mem_cons_of_mem _ hz)) h.2⟩
theorem F2_app {α β : Type} {R : α → β → Prop} : ∀ {xs : List α} {ys : List β} {xs' : List α} {ys' : List β}, F2 R xs ys → F2 R xs' ys' → F2 R (xs ++ xs') (ys ++ ys')
  | [], [], _, _, _, h => h
  | x :: xs, y :: ys, _, _, h, h' => ⟨h.1, F2_app h.2 h'⟩
theorem F2_get {α β : Type} {R : α → β → Prop} : ∀ {xs : List α} {ys : List β} {i : Nat} {x : α}, F2 R xs ys → xs[i]? = some x → ∃ y, ys[i]? = some y ∧ R x y
  | [], [], i, x, _, q => by simp at q
  | x :: xs, y :: ys, 0, z, h, q => by
    simp only [List.getElem?_cons_zero, Option.some.injEq] at q
    subst q
    exact ⟨y, rfl, h.1⟩
  | x :: xs, y :: ys, i + 1, z, h, q => by
    simp only [List.getElem?_cons_succ] at q ⊢
    exact F2_get h.2 q
theorem F2_take {α β : Type} {R : α → β → Prop} : ∀ {xs : List α} {ys : List β} (n : Nat), F2 R xs ys → F2 R (xs.take n) (ys.take n)
  | [], [], n, _ => by simp only [List.take_nil]; exact True.intro
  | x :: xs, y :: ys, 0, _ => True.intro
  | x :: xs, y :: ys, n + 1, h => ⟨h.1, F2_take n h.2⟩
theorem F2_drop {α β : Type} {R : α → β → Prop} : ∀ {xs : List α} {ys : List β} (n : Nat), F2 R xs ys → F2 R (xs.drop n) (ys.drop n)
  | [], [], n, _ => by simp only [List.drop_nil]; exact True.intro
  | x :: xs, y :: ys, 0, h => h
  | x :: xs, y :: ys, n + 1, h => F2_drop n h.2
theorem F2_erase {α β : Type} {R : α → β → Prop} : ∀ {xs : List α} {ys : List β} (n : Nat), F2 R xs ys → F2 R (xs.eraseIdx n) (ys.eraseIdx n)
  | [], [], n, _ => by simp only [List.eraseIdx_nil]; exact True.intro
  | x :: xs, y :: ys, 0, h => h.2
  | x :: xs, y :: ys, n + 1, h => ⟨h.1, F2_erase n h.2⟩
/-! numbers that lie one by one: field of the agreed store, class, field -/
def sT : List (Nat × Nat × Nat) := [(1, 14, 0), (2, 14, 1), (3, 14, 2), (21, 14, 3), (22, 14, 4), (24, 14, 5), (25, 14, 6), (26, 14, 7), (27, 14, 8), (52, 13, 8), (71, 13, 9), (53, 13, 10), (54, 13, 11), (73, 13, 12), (74, 13, 13), (79, 13, 15), (69, 13, 16), (55, 9, 3), (57, 9, 4), (58, 9, 5), (56, 9, 6), (65, 9, 7), (64, 9, 8), (75, 9, 9), (76, 9, 10), (77, 9, 11), (80, 7, 10), (81, 7, 11), (45, 6, 6), (150, 6, 8), (47, 6, 9), (151, 12, 7), (124, 5, 3), (125, 5, 4), (126, 5, 5), (127, 5, 6), (128, 5, 7), (129, 5, 8), (141, 4, 1)]
/-- those of them that nothing else hangs on -/
def frK : List Nat := [2, 3, 21, 22, 24, 25, 26, 27, 71, 53, 54, 74, 79, 55, 57, 58, 56, 65, 64, 75, 76, 77, 80, 81, 45, 150, 125, 126, 127, 128, 129, 141]
def KSc (c : CS) (a : AA) : Prop := ∀ x ∈ sT, ∀ i, i < ccnt x.2.1 → cI c x.2.1 i x.2.2 0 = aS a x.1 i
def kF (e : AE) : Nat → Int32
  | 0 => e.1
  | 1 => e.2.1
  | 2 => e.2.2.1
  | 3 => e.2.2.2.1
  | 4 => e.2.2.2.2.1
  | _ => e.2.2.2.2.2
/-- a machine as the class has it: the sessions by their numbers -/
def cM (M : AM) : AM := (M.1.mergeSort (fun x y => decide (x.1 ≤ y.1)), M.2)
/-- an entry whose size may be -/
def eOK (e : AE) : Prop := 0 ≤ e.2.2.1.toInt ∧ e.2.2.1.toInt ≤ 256
/-! letters -/
def lFs (k : Int32) : List Nat := if k = 1 ∨ k = 3 then [7, 8] else if k = 2 ∨ k = 4 then [6] else if k = 5 then [7, 8, 9, 10] else if k = 6 then [6, 7, 10] else if k = 7 then [7, 8, 11, 12, 13, 10] else if k = 8 then [7, 12, 10] else if k = 10 then [6, 14, 15, 16, 12] else if k = 11 then [6] else []
def LR (c : CS) (ad : Nat) (l : AL) : Prop :=
  (∀ j ∈ [2, 3, 4, 5], cI c 8 ad j 0 = l.1 j) ∧ (∀ j ∈ lFs (l.1 4), cI c 8 ad j 0 = l.1 j) ∧
  (l.1 4 = 5 → cI c 8 ad 17 0 = Int32.ofNat l.2.1.length ∧ l.2.1.length ≤ 6 ∧ ∀ i, i < l.2.1.length → (∀ j, j < 6 → cI c 8 ad 18 (6 * i + j) = kF (l.2.1.getD i aE0) j) ∧ eOK (l.2.1.getD i aE0)) ∧
  (l.1 4 = 7 → ∃ n o, l.1 17 = Int32.ofNat n ∧ l.1 13 = Int32.ofNat o ∧ cI c 8 ad 17 0 = Int32.ofNat n ∧ n ≤ 200 ∧ o < 2147483648 ∧ o + n ≤ (aEnc l.2.2.2).length ∧ ∀ i, i < n → cI c 8 ad 19 i = (aEnc (cM l.2.2.2)).getD (o + i) 0) ∧
  (l.1 4 = 11 → ((l.1 6 = 0 ∨ l.1 6 = 1) → cI c 8 ad 7 0 = l.1 7) ∧ cI c 8 ad 17 0 = Int32.ofNat l.2.2.1.length ∧ l.2.2.1.length ≤ 134 ∧ ∀ i, i < l.2.2.1.length → cI c 8 ad 19 i = l.2.2.1.getD i 0)
def LRp (c : CS) (ad : Nat) (p : AP) : Prop := cI c 8 ad 0 0 = p.1 ∧ cI c 8 ad 1 0 = p.2.1 ∧ LR c ad p.2.2
/-- the letters in the hand, what is due of each server, the room at the beginning -/
abbrev CV : Type := (List (Nat × Option AL) × (Nat → Int32)) × (Nat × Nat)
/-- how often a letter is somewhere -/
def nC (c : CS) (H : List (Nat × Option AL)) (x : Nat) : Nat := (cS c 14 0 15).count x + (cS c 14 0 16).count x + sumN (fun s => (cS c 13 s 7).count x) 7 + (H.map Prod.fst).count x
/-- how many letters there are -/
def nL (c : CS) (H : List (Nat × Option AL)) : Nat := (cS c 14 0 15).length + (cS c 14 0 16).length + sumN (fun s => (cS c 13 s 7).length) 7 + H.length
def KLt (c : CS) (a : AA) (H : List (Nat × Option AL)) : Prop :=
  (∀ x, nC c H x ≤ 1 ∧ (0 < nC c H x → x < (cT c).1)) ∧ F2 (LRp c) (cS c 14 0 15) (aWay a) ∧ (∀ s, s < 7 → F2 (LR c) (cS c 13 s 7) (aWt a s)) ∧ (∀ x ∈ H, ∀ l, x.2 = some l → LR c x.1 l) ∧ (cS c 14 0 15).length ≤ 128 ∧ (∀ s, s < 7 → (cS c 13 s 7).length ≤ 32) ∧ (aWay a).Pairwise (fun x y => x.1 ≤ y.1)
/-! room -/
def gA (w : Nat → Nat) (c : CS) : Nat := sumN (fun i => w 0 * cL c 11 i 6 + w 0 * cL c 11 i 7 + w 1 * cL c 11 i 8) 210 + sumN (fun s => w 1 * cL c 10 s 14 + w 2 * cL c 13 s 18 + w 3 * cL c 13 s 7) 7 + (w 4 * cL c 4 0 2 + w 4 * cL c 4 0 3 + w 3 * cL c 14 0 15 + w 3 * cL c 14 0 16)
def gw1 : Nat → Nat := fun k => [1, 4, 8, 4, 1].getD k 0
def gw2 : Nat → Nat := fun k => [2, 3, 2, 4, 2].getD k 0
/-- how far a row of letters may have grown -/
def lC (x : Nat) : Prop := (x = 0 ∨ 10 ≤ x) ∧ x ≤ 600
def KCap (c : CS) : Prop := (∀ i, i < 210 → cL c 11 i 6 ≤ (if i % 30 < 6 then 0 else 3864) ∧ cL c 11 i 7 ≤ (if i % 30 < 6 then 0 else 644) ∧ cL c 11 i 8 ≤ (if i % 30 = 4 ∨ i % 30 = 5 then 21000 else 0)) ∧ (∀ s, s < 7 → cL c 10 s 14 ≤ 21000 ∧ cL c 13 s 18 ≤ 28400 ∧ lC (cL c 13 s 7)) ∧ cL c 4 0 2 ≤ 21000 ∧ cL c 4 0 3 ≤ 500000 ∧ lC (cL c 14 0 15) ∧ lC (cL c 14 0 16)
def KRm (c : CS) (v : CV) : Prop := 16 * (cT c).1 ≤ 16 * v.2.1 + 48 * nL c v.1.1 + gA gw1 c ∧ (cT c).2 ≤ v.2.2 + 256 * nL c v.1.1 + gA gw2 c ∧ nL c v.1.1 ≤ 360 ∧ KCap c
/-! the world, servers -/
def KHd (c : CS) (s : Nat) (x : Int32) : Prop := cI c 13 s 14 0 = if x = -2000000000 then -1 else x
def KLd (c : CS) (a : AA) (s : Nat) : Prop := cI c 7 s 8 0 = aS a 82 s ∧ cI c 7 s 9 0 = aS a 83 s ∧ ∀ p, p < 7 → cI c 7 s 0 p = aS a 86 (7 * s + p) ∧ cI c 7 s 1 p = aS a 87 (7 * s + p) ∧ cI c 7 s 2 p = aS a 88 (7 * s + p) ∧ cI c 7 s 3 p = aS a 90 (7 * s + p) ∧ cI c 7 s 4 p = aS a 91 (7 * s + p) ∧ cI c 7 s 5 p = aS a 92 (7 * s + p) ∧ cI c 7 s 6 p = aS a 89 (7 * s + p) ∧ cI c 7 s 7 p = aS a 93 (7 * s + p)
def KRq1 (c : CS) (s w : Nat) (q : AQ) : Prop := cI c 12 s 1 w = q 1 ∧ cI c 12 s 2 w = q 2 ∧ cI c 12 s 3 w = q 3 ∧ cI c 12 s 4 w = q 4 ∧ cI c 12 s 5 w = q 5 ∧ cI c 12 s 6 w = q 6
def qN (q : AQ) : Nat := (q 0).toNatClampNeg
def KRq (c : CS) (s : Nat) (n : Int32) (rq : List AQ) : Prop := ∃ b : Nat, n = Int32.ofNat b ∧ b < 2147483648 ∧ (rq.map qN).Pairwise (· < ·) ∧ (∀ q ∈ rq, q 0 = Int32.ofNat (qN q) ∧ qN q < b ∧ b ≤ qN q + 32 ∧ KRq1 c s (qN q % 32) q) ∧
  (∀ w, w < 32 → cI c 12 s 0 w = if w ∈ rq.map (fun q => qN q % 32) then 1 else 0) ∧ cI c 12 s 8 0 = Int32.ofNat rq.length
def KBl (c : CS) (a : AA) : Prop := ∀ b, b < 23 → (0 ≤ aBn a b → 0 ≤ aBt a b ∧ cI c 14 0 10 b = aBt a b ∧ cI c 14 0 11 b = aBn a b) ∧ (aBn a b < 0 → cI c 14 0 10 b = -1)
def KDa (c : CS) (a : AA) : Prop := (∀ k, k < 256 → cI c 14 0 12 k = aS a 23 k) ∧ (∀ s, s < 7 → cI c 14 0 13 s = aS a 72 s) ∧ (∀ s, s < 7 → cJ c 14 0 14 s = a.1.2 84 s) ∧ cJ c 14 0 9 0 = a.1.2 28 0
def KLw (c : CS) (a : AA) (s : Nat) : Prop := ∀ f, f < 16 → cI c 6 s 2 f = aS a 43 (16 * s + f)
def KG (c : CS) (s : Nat) (g : List AE) : Prop := (∀ i, i < g.length → ∀ j, j < 6 → cI c 9 s 1 (6 * i + j) = kF (g.getD i aE0) j) ∧ ∀ e ∈ g, eOK e
/-- a page: what a file holds -/
def PG (c : CS) (q : Nat) (F : AF) : Prop := cI c 11 q 0 0 = F.1 0 ∧ cI c 11 q 1 0 = F.1 1 ∧ cI c 11 q 2 0 = F.1 2 ∧ cI c 11 q 3 0 = F.1 3 ∧ cI c 11 q 4 0 = F.1 4 ∧ cI c 11 q 5 0 = Int32.ofNat (aWhole F).length ∧
  (∀ i, i < (aWhole F).length → (∀ j, j < 6 → cI c 11 q 6 (6 * i + j) = kF ((aWhole F).getD i aE0) j) ∧ cI c 11 q 7 i = Int32.ofInt (aFrame F.2.1 (i + 1))) ∧ (aWhole F).length ≤ cL c 11 q 7 ∧ cL c 11 q 6 = 6 * cL c 11 q 7 ∧ (F.1 0 = 0 ∨ F.1 0 = 1) ∧ (aWhole F).length ≤ 320 ∧ ∀ e ∈ F.2.1, eOK e
/-- the bytes of a snapshot -/
def KSn (c : CS) (q : Nat) (F : AF) : Prop := cI c 11 q 9 0 = Int32.ofNat (aEnc F.2.2).length ∧ F.1 1 = Int32.ofNat (20 + (aEnc F.2.2).length) ∧ (aEnc F.2.2).length ≤ cL c 11 q 8 ∧ ∀ i, i < (aEnc F.2.2).length → cI c 11 q 8 i = (aEnc (cM F.2.2)).getD i 0
/-- how many entries a page and the one that was kept have in common -/
def KSm (c : CS) (s f : Nat) (F G : AF) : Prop := ∃ m : Nat, cI c 6 s 3 f = Int32.ofNat m ∧ m ≤ (aWhole F).length ∧ m ≤ (aWhole G).length ∧ (aWhole F).take m = (aWhole G).take m
def KPg (c : CS) (s : Nat) (fc fk : Nat → AF) : Prop := ∀ f, f < 16 → PG c (30 * s + cpg f) (fc f) ∧ PG c (30 * s + ckp f) (fk f) ∧ (f ≠ 2 → f ≠ 3 → KSm c s f (fc f) (fk f)) ∧ (f = 2 ∨ f = 3 → fk f = fc f ∧ ((fc f).1 0 = 1 → KSn c (30 * s + cpg f) (fc f))) ∧ (f < 4 → (fc f).2.1 = [] ∧ (fk f).2.1 = [])
def KCh (c : CS) (s : Nat) (ch : List Nat) : Prop := cI c 6 s 5 0 = Int32.ofNat ch.length ∧ ch.length ≤ 12 ∧ ∀ i, i < ch.length → 4 ≤ ch.getD i 0 ∧ ch.getD i 0 < 16 ∧ cI c 6 s 4 i = Int32.ofNat (ch.getD i 0)
def KM0 (c : CS) (s : Nat) (M : AM) : Prop := cI c 10 s 1 0 = Int32.ofNat M.1.length ∧ cI c 10 s 4 0 = Int32.ofNat M.2.length ∧ cI c 10 s 5 0 = Int32.ofNat (aUnits M) ∧
  (∀ i, i < M.1.length →
    let x := M.1.getD i (0, 0, 0, 0, [])
    cI c 10 s 2 (5 * i) = x.1 ∧ cI c 10 s 2 (5 * i + 1) = x.2.1 ∧ cI c 10 s 2 (5 * i + 2) = x.2.2.1 ∧ cI c 10 s 2 (5 * i + 3) = x.2.2.2.1 ∧ cI c 10 s 2 (5 * i + 4) = Int32.ofNat x.2.2.2.2.length ∧ ∀ j, j < x.2.2.2.2.length → cI c 10 s 3 (101 * i + j) = x.2.2.2.2.getD j 0) ∧
  ∃ sl : List Nat, sl.length = 128 ∧ sl.Nodup ∧ (∀ k ∈ sl, k < 128) ∧ (∀ k, k < 128 → cI c 10 s 6 k = Int32.ofNat (sl.getD k 0)) ∧
    ∀ i, i < M.2.length →
      let e := M.2.getD i ([], [])
      let q := sl.getD i 0
      cI c 10 s 7 q = Int32.ofNat e.1.length ∧ cI c 10 s 8 q = Int32.ofNat e.2.length ∧ (∀ j, j < e.1.length → cI c 10 s 9 (132 * q + j) = e.1.getD j 0) ∧ ∀ j, j < e.2.length → cI c 10 s 9 (132 * q + 32 + j) = e.2.getD j 0
/-- a machine as it may be here -/
def wfMc (M : AM) : Prop := wfM M ∧ (∀ x ∈ M.1, x.2.2.2.2.length ≤ 101) ∧ (M.1.map (fun x => x.1)).Nodup ∧ (M.1.map (fun x => x.2.1)).Nodup ∧ ∀ x ∈ M.1, 0 ≤ x.1 ∧ 0 ≤ x.2.1
def KMc (c : CS) (s : Nat) (M : AM) : Prop := wfMc M ∧ KM0 c s (cM M)
def KPc (c : CS) (s : Nat) (pb pg : Int32) (M : AM) : Prop := pb = -1 ∨ ∃ G, pg = Int32.ofNat G ∧ cI c 13 s 17 0 = Int32.ofNat G ∧ G ≤ (aEnc M).length ∧ G ≤ cL c 13 s 18 ∧ ∀ i, i < G → cI c 13 s 18 i = (aEnc (cM M)).getD i 0
def KCl (c : CS) (k : Nat) (b x y z : Int32) : Prop := b = 0 ∨ (cI c 5 k 9 0 = x ∧ cI c 5 k 10 0 = y ∧ cI c 5 k 11 0 = z)
def KDn (c : CS) (k : Nat) (t : List Int32) : Prop := cI c 5 k 13 0 = Int32.ofNat t.length ∧ t.length ≤ 134 ∧ ∀ i, i < t.length → cI c 5 k 12 i = t.getD i 0
def kOff (K : List AK) (j : Nat) : Nat := ((K.take j).map (fun k => k.2.length)).sum
def KAk (c : CS) (K : List AK) : Prop := cI c 4 0 0 0 = Int32.ofNat K.length ∧ K.length ≤ 1024 ∧ cI c 4 0 4 0 = Int32.ofNat (kOff K K.length) ∧ 10 * K.length ≤ cL c 4 0 2 ∧ kOff K K.length ≤ cL c 4 0 3 ∧ (∀ k ∈ K, k.2.length ≤ 232) ∧
  ∀ j, j < K.length →
    let k := K.getD j (fun _ => 0, [])
    (∀ i, i < 6 → cI c 4 0 2 (10 * j + i) = k.1 i) ∧ cI c 4 0 2 (10 * j + 6) = Int32.ofNat (kOff K j) ∧ cI c 4 0 2 (10 * j + 7) = k.1 7 ∧ cI c 4 0 2 (10 * j + 8) = k.1 8 ∧ cI c 4 0 2 (10 * j + 9) = Int32.ofNat k.2.length ∧ ∀ i, i < k.2.length → cI c 4 0 3 (kOff K j + i) = k.2.getD i 0
def KFc (c : CS) (t r : List Int32) : Prop := cI c 15 0 5 0 = Int32.ofNat t.length ∧ t.length ≤ 400 ∧ (∀ i, i < t.length → cI c 15 0 4 i = t.getD i 0) ∧ cI c 15 0 7 0 = Int32.ofNat r.length ∧ r.length ≤ 134 ∧ ∀ i, i < r.length → cI c 15 0 6 i = r.getD i 0
def KId (c : CS) (s : Nat) (x d : Int32) : Prop := cI c 13 s 0 0 = Int32.ofNat s ∧ cI c 9 s 0 0 = x ∧ cI c 13 s 19 0 = d
/-- the snapshot that a server has -/
def shOK (a : AA) (s : Nat) : Prop := (aS a 47 s = -1 ∧ aS a 67 s = 0 ∧ aSh a s = ([], [])) ∨ ∃ f, (f = 2 ∨ f = 3) ∧ aS a 47 s = Int32.ofNat f ∧ (aFc a s f).1 0 = 1 ∧ (aFc a s f).2.2 = aSh a s ∧ aS a 67 s = Int32.ofNat (aEnc (aSh a s)).length
def nwOK (a : AA) : Prop := 0 ≤ (aNow a).toInt ∧ (aNow a).toInt < 1073741824 ∧ (∀ s, s < 7 → 0 ≤ aS a 72 s ∧ aS a 72 s ≤ 1000) ∧ (∀ s, s < 7 → aS a 71 s = 0 ∨ aS a 71 s = 1) ∧ 0 ≤ (aS a 27 0).toInt ∧ (aS a 27 0).toInt ≤ 1000
def RC (c : CS) (a : AA) (v : CV) : Prop :=
  KSc c a ∧ (∀ s, s < 7 → aS a 52 s = 1 → cI c 6 s 7 0 = aS a 46 s) ∧ (∀ s, s < 7 → KHd c s (aS a 78 s)) ∧ (∀ s, s < 7 → aS a 73 s = 3 → KLd c a s) ∧ (∀ s, s < 7 → aS a 52 s = 1 → KRq c s (aS a 151 s) (aRq a s)) ∧ KBl c a ∧ KDa c a ∧
  (∀ s, s < 7 → KLw c a s) ∧ (∀ s, s < 7 → KG c s (aLg a s)) ∧ (∀ s, s < 7 → KPg c s (aFc a s) (aFk a s)) ∧ (∀ s, s < 7 → KCh c s (aCh a s)) ∧ (∀ s, s < 7 → KMc c s (aMc a s)) ∧ (∀ s, s < 7 → KPc c s (aS a 69 s) (aS a 70 s) (aPm a s)) ∧
  (∀ k, k < 8 → KCl c k (aS a 124 k) (aS a 137 k) (aS a 131 k) (aS a 130 k)) ∧ (∀ k, k < 8 → KDn c k (aDn a k)) ∧ KAk c (aAk a) ∧ KFc c (aTp a) (aRe a) ∧ (∀ s, s < 7 → KId c s (aS a 145 0) (v.1.2 s)) ∧ (∀ k, k < 8 → cI c 5 k 0 0 = Int32.ofNat (8 + k)) ∧
  KLt c a v.1.1 ∧ KRm c v ∧ (∀ s, s < 7 → aS a 52 s = 1 → shOK a s) ∧ nwOK a
