/-! the machine: the keys with their slots -/
theorem cI_A {c : CS} {K I f j : Nat} {x : Nat → Int32} : cI (csA c K I f x) K I f j = x j := if_pos ⟨rfl, rfl, rfl⟩
theorem cI_Ao {c : CS} {K I f K' I' f' j : Nat} {x : Nat → Int32} (h : f' ≠ f) : cI (csA c K I f x) K' I' f' j = cI c K' I' f' j := if_neg (fun z => h z.2.2)
theorem PX_o {K I f j : Nat} {fs : List Nat} {c c' : CS} (h : PX K I fs c c') (hf : f ∉ fs) : cI c' K I f j = cI c K I f j := (h.1 K I f (fun z => hf z.2.2)).1 j
theorem PX_c {K I : Nat} {fs : List Nat} {c c' : CS} (h : PX K I fs c c') {cl i f j : Nat} (hc : cl ≠ K) : cI c' cl i f j = cI c cl i f j := (h.1 cl i f (fun z => hc z.1)).1 j
theorem PX_w {K I : Nat} {fs gs : List Nat} {c c' : CS} (h : PX K I fs c c') (q : ∀ f ∈ fs, f ∈ gs) : PX K I gs c c' := ⟨fun cl i f z => h.1 cl i f (fun y => z ⟨y.1, y.2.1, q _ y.2.2⟩), h.2⟩
theorem PX_cL {K I : Nat} {fs : List Nat} {c c' : CS} (h : PX K I fs c c') {cl i f : Nat} : cL c' cl i f = cL c cl i f := by rw [h.2.2.1]
def kE0 : List Int32 × List Int32 := ([], [])
def KMe (c : CS) (s q : Nat) (e : List Int32 × List Int32) : Prop := cI c 10 s 7 q = Int32.ofNat e.1.length ∧ cI c 10 s 8 q = Int32.ofNat e.2.length ∧ (∀ j, j < e.1.length → cI c 10 s 9 (132 * q + j) = e.1.getD j 0) ∧ ∀ j, j < e.2.length → cI c 10 s 9 (132 * q + 32 + j) = e.2.getD j 0
/-- where the keys lie -/
def fInj (f : Nat → Nat) : Prop := (∀ k, k < 128 → f k < 128) ∧ ∀ i j, i < 128 → j < 128 → f i = f j → i = j
def KMs (c : CS) (s : Nat) (L : List (List Int32 × List Int32)) (f : Nat → Nat) : Prop := fInj f ∧ (∀ k, k < 128 → cI c 10 s 6 k = Int32.ofNat (f k)) ∧ ∀ i, i < L.length → KMe c s (f i) (L.getD i ([], []))
def KSs (c : CS) (s : Nat) (L : List AN) : Prop := ∀ i, i < L.length →
    let x := L.getD i (0, 0, 0, 0, [])
    cI c 10 s 2 (5 * i) = x.1 ∧ cI c 10 s 2 (5 * i + 1) = x.2.1 ∧ cI c 10 s 2 (5 * i + 2) = x.2.2.1 ∧ cI c 10 s 2 (5 * i + 3) = x.2.2.2.1 ∧ cI c 10 s 2 (5 * i + 4) = Int32.ofNat x.2.2.2.2.length ∧ ∀ j, j < x.2.2.2.2.length → cI c 10 s 3 (101 * i + j) = x.2.2.2.2.getD j 0
theorem KM0_f {c : CS} {s : Nat} {M : AM} (h : KM0 c s M) : cI c 10 s 1 0 = Int32.ofNat M.1.length ∧ cI c 10 s 4 0 = Int32.ofNat M.2.length ∧ cI c 10 s 5 0 = Int32.ofNat (aUnits M) ∧ KSs c s M.1 ∧ ∃ f, KMs c s M.2 f := by
  obtain ⟨h1, h2, h3, h4, sl, s1, s2, s3, s4, s5⟩ := h
  refine ⟨h1, h2, h3, h4, fun k => sl.getD k 0, ⟨fun k hk => ?_, fun i j hi hj e => nodup_inj s2 (by omega) (by omega) e⟩, s4, s5⟩
  show sl.getD k 0 < 128
  rw [List.getD_eq_getElem?_getD, List.getElem?_eq_getElem (by omega)]
  exact s3 _ (List.getElem_mem _)
theorem KM0_b {c : CS} {s : Nat} {M : AM} {f : Nat → Nat} (hl : M.2.length ≤ 128) (h1 : cI c 10 s 1 0 = Int32.ofNat M.1.length) (h2 : cI c 10 s 4 0 = Int32.ofNat M.2.length) (h3 : cI c 10 s 5 0 = Int32.ofNat (aUnits M)) (h4 : KSs c s M.1) (hf : KMs c s M.2 f) : KM0 c s M := by
  obtain ⟨⟨f1, f2⟩, f3, f4⟩ := hf
  have g : ∀ k, k < 128 → ((List.range 128).map f).getD k 0 = f k := by
    intro k hk
    rw [List.getD_eq_getElem?_getD, List.getElem?_map, List.getElem?_range hk]
    rfl
  refine ⟨h1, h2, h3, h4, (List.range 128).map f, by rw [List.length_map, List.length_range], ?_, ?_, fun k hk => ?_, fun i hi => ?_⟩
  · rw [List.nodup_iff_pairwise_ne, List.pairwise_map]
    refine List.Pairwise.imp_of_mem (fun {x y} hx hy hxy e => ?_) (List.nodup_iff_pairwise_ne.mp List.nodup_range)
    exact hxy (f2 x y (List.mem_range.mp hx) (List.mem_range.mp hy) e)
  · intro k hk
    obtain ⟨x, hx, rfl⟩ := List.mem_map.mp hk
    exact f1 x (List.mem_range.mp hx)
  · rw [g k hk]
    exact f3 k hk
  · have := f4 i hi
    dsimp only
    rw [g i (by omega)]
    exact this
theorem KSs_o {c c' : CS} {s : Nat} {L : List AN} (h : KSs c s L) (e2 : ∀ j, cI c' 10 s 2 j = cI c 10 s 2 j) (e3 : ∀ j, cI c' 10 s 3 j = cI c 10 s 3 j) : KSs c' s L := by
  intro i hi
  have := h i hi
  dsimp only at this ⊢
  simp only [e2, e3]
  exact this
theorem KMs_o {c c' : CS} {s : Nat} {L : List (List Int32 × List Int32)} {f : Nat → Nat} (h : KMs c s L f) (e : ∀ g, g = 6 ∨ g = 7 ∨ g = 8 ∨ g = 9 → ∀ j, cI c' 10 s g j = cI c 10 s g j) : KMs c' s L f := by
  obtain ⟨h1, h2, h3⟩ := h
  refine ⟨h1, fun k hk => (e 6 (by omega) k).trans (h2 k hk), fun i hi => ?_⟩
  obtain ⟨a1, a2, a3, a4⟩ := h3 i hi
  exact ⟨(e 7 (by omega) _).trans a1, (e 8 (by omega) _).trans a2, fun j hj => (e 9 (by omega) _).trans (a3 j hj), fun j hj => (e 9 (by omega) _).trans (a4 j hj)⟩
/-- keys and values are short -/
def shL (L : List (List Int32 × List Int32)) : Prop := L.length ≤ 128 ∧ ∀ i, i < L.length → (L.getD i ([], [])).1.length ≤ 32 ∧ (L.getD i ([], [])).2.length ≤ 100
theorem shL_wf {M : AM} (w : wfM M) : shL M.2 := ⟨w.2.1, fun i hi => by
  have hm : M.2.getD i ([], []) ∈ M.2 := by
    rw [getD_g hi]
    exact List.getElem_mem _
  exact ⟨(w.2.2.2 _ hm).1, (w.2.2.2 _ hm).2.1⟩⟩
theorem i_units {k v : Nat} (hk : k ≤ 32) (hv : v ≤ 100) : (Int32.ofNat k + Int32.ofNat v + 15) / 16 = Int32.ofNat (aUnit k v) := by
  rw [i_ad, show (15 : Int32) = Int32.ofNat 15 from rfl, i_ad, show (16 : Int32) = Int32.ofNat 16 from rfl, i_div (by omega) (by omega) (by omega)]
  rfl
theorem K_units {c : CS} {s i : Nat} {L : List (List Int32 × List Int32)} {f : Nat → Nat} (h : KMs c s L f) (w : shL L) (hi : i < L.length) : k_Machine_unitsOf c s (Int32.ofNat i) = some (Int32.ofNat (aUnit (L.getD i ([], [])).1.length (L.getD i ([], [])).2.length)) := by
  have := w.1
  obtain ⟨h1, h2, h3⟩ := h
  obtain ⟨a1, a2, _, _⟩ := h3 i hi
  obtain ⟨w1, w2⟩ := w.2 i hi
  have hq := h1.1 i (by omega)
  unfold k_Machine_unitsOf k_Machine_unitsOf_b0
  rw [crd_n rfl (show i < 128 by omega) (by omega), h2 i (by omega)]
  show (crd c 10 s 7 (Int32.ofNat (f i))).bind _ = _
  rw [crd_n rfl (show f i < 128 from hq) (by omega), a1]
  show (crd c 10 s 8 (Int32.ofNat (f i))).bind _ = _
  rw [crd_n rfl (show f i < 128 from hq) (by omega), a2]
  show (if (16 : Int32) = 0 then none else some ((Int32.ofNat (L.getD i ([], [])).1.length + Int32.ofNat (L.getD i ([], [])).2.length + 15) / 16)) = _
  rw [if_neg (by decide), i_units w1 w2]
theorem un_le {k v : Nat} (hk : k ≤ 32) (hv : v ≤ 100) : aUnit k v ≤ 9 := by
  unfold aUnit
  omega
theorem i_132 {q : Nat} : Int32.ofNat q * 132 = Int32.ofNat (132 * q) := by
  rw [show (132 : Int32) = Int32.ofNat 132 from rfl, i_mc, Nat.mul_comm]
theorem getD_setL {L : List (List Int32 × List Int32)} {i j : Nat} {x : List Int32 × List Int32} (hi : i < L.length) : (L.set i x).getD j ([], []) = if j = i then x else L.getD j ([], []) := by
  rw [List.getD_eq_getElem?_getD, List.getD_eq_getElem?_getD, List.getElem?_set]
  by_cases q : i = j
  · rw [if_pos q, if_pos q.symm, if_pos (by omega)]
    rfl
  · rw [if_neg q, if_neg (fun z => q z.symm)]
/-- a value is written -/
theorem K_store {c : CS} {s i o u : Nat} {L : List (List Int32 × List Int32)} {f : Nat → Nat} {v : List Int32} (h : KMs c s L f) (w : shL L) (hi : i < L.length) (hv : v.length ≤ 100) (ha : kAt c o v) (h5 : cI c 10 s 5 0 = Int32.ofNat u) (hu : aUnit (L.getD i ([], [])).1.length (L.getD i ([], [])).2.length ≤ u) : WP (k_Machine_storeValue c s (Int32.ofNat i) (Int32.ofNat o) (Int32.ofNat v.length)) (fun c' => PX 10 s [5, 8, 9] c c' ∧ KMs c' s (L.set i ((L.getD i ([], [])).1, v)) f ∧ cI c' 10 s 5 0 = Int32.ofNat (u - aUnit (L.getD i ([], [])).1.length (L.getD i ([], [])).2.length + aUnit (L.getD i ([], [])).1.length v.length)) := by
  have hL := w.1
  obtain ⟨h1, h2, h3⟩ := h
  obtain ⟨a1, a2, a3, a4⟩ := h3 i hi
  obtain ⟨w1, w2⟩ := w.2 i hi
  have hq := h1.1 i (by omega)
  obtain ⟨_, b2, b3, b4⟩ := ha
  have hun := K_units ⟨h1, h2, h3⟩ w hi
  generalize eE : L.getD i ([], []) = E at a1 a2 a3 a4 w1 w2 hu hun
  unfold k_Machine_storeValue k_Machine_storeValue_b0
  refine WP_eq (crd_n rfl (show i < 128 by omega) (by omega)) ?_
  rw [h2 i (by omega)]
  refine WP_eq hun (WP_b ?_)
  rw [h5, i_subn hu]
  refine WP_eq (cwr_n rfl (show f i < 128 from hq) (by omega)) ?_
  rw [i_132, show Int32.ofNat (132 * f i) + 32 = Int32.ofNat (132 * f i + 32) from i_ad (s := 32)]
  have P1 : PX 10 s [5, 8, 9] c (csI (csI c 10 s 5 0 (Int32.ofNat (u - aUnit E.1.length E.2.length))) 10 s 8 (f i) (Int32.ofNat v.length)) := PX_t (PX_I (by decide)) (PX_I (by decide))
  have y5 : cI (csI (csI c 10 s 5 0 (Int32.ofNat (u - aUnit E.1.length E.2.length))) 10 s 8 (f i) (Int32.ofNat v.length)) 10 s 5 0 = Int32.ofNat (u - aUnit E.1.length E.2.length) := (csI_f (by decide)).trans csI_e
  have y8 : ∀ j, cI (csI (csI c 10 s 5 0 (Int32.ofNat (u - aUnit E.1.length E.2.length))) 10 s 8 (f i) (Int32.ofNat v.length)) 10 s 8 j = if j = f i then Int32.ofNat v.length else cI c 10 s 8 j := by
    intro j
    by_cases z : j = f i
    · rw [if_pos z, z, csI_e]
    · rw [if_neg z, csI_j z, csI_f (by decide)]
  have y9 : ∀ j, cI (csI (csI c 10 s 5 0 (Int32.ofNat (u - aUnit E.1.length E.2.length))) 10 s 8 (f i) (Int32.ofNat v.length)) 10 s 9 j = cI c 10 s 9 j := fun j => (csI_f (by decide)).trans (csI_f (by decide))
  generalize csI (csI c 10 s 5 0 (Int32.ofNat (u - aUnit E.1.length E.2.length))) 10 s 8 (f i) (Int32.ofNat v.length) = c1 at P1 y5 y8 y9
  have o4 : ∀ j, cI c1 4 0 3 j = cI c 4 0 3 j := fun j => PX_c P1 (by decide)
  have l4 : cL c1 4 0 3 = cL c 4 0 3 := PX_cL P1
  refine WP_eq (ccpy_n (s := o) (t := 132 * f i + 32) (n := v.length) rfl rfl rfl (show o + v.length ≤ cL c1 4 0 3 by omega) (show 132 * f i + 32 + v.length ≤ 16896 by omega) (by omega) (by omega)) ?_
  have P2 : PX 10 s [5, 8, 9] c (csA c1 10 s 9 (fun w => if 132 * f i + 32 ≤ w ∧ w < 132 * f i + 32 + v.length then cI c1 4 0 3 (o + (w - (132 * f i + 32))) else cI c1 10 s 9 w)) := PX_t P1 (PX_A (by decide))
  have z5 : cI (csA c1 10 s 9 (fun w => if 132 * f i + 32 ≤ w ∧ w < 132 * f i + 32 + v.length then cI c1 4 0 3 (o + (w - (132 * f i + 32))) else cI c1 10 s 9 w)) 10 s 5 0 = Int32.ofNat (u - aUnit E.1.length E.2.length) := (cI_Ao (by decide)).trans y5
  have z8 : ∀ j, cI (csA c1 10 s 9 (fun w => if 132 * f i + 32 ≤ w ∧ w < 132 * f i + 32 + v.length then cI c1 4 0 3 (o + (w - (132 * f i + 32))) else cI c1 10 s 9 w)) 10 s 8 j = if j = f i then Int32.ofNat v.length else cI c 10 s 8 j := fun j => (cI_Ao (by decide)).trans (y8 j)
  have z9 : ∀ j, cI (csA c1 10 s 9 (fun w => if 132 * f i + 32 ≤ w ∧ w < 132 * f i + 32 + v.length then cI c1 4 0 3 (o + (w - (132 * f i + 32))) else cI c1 10 s 9 w)) 10 s 9 j = if 132 * f i + 32 ≤ j ∧ j < 132 * f i + 32 + v.length then cI c 4 0 3 (o + (j - (132 * f i + 32))) else cI c 10 s 9 j := fun j => by
    rw [cI_A, o4, y9]
  generalize csA c1 10 s 9 (fun w => if 132 * f i + 32 ≤ w ∧ w < 132 * f i + 32 + v.length then cI c1 4 0 3 (o + (w - (132 * f i + 32))) else cI c1 10 s 9 w) = c2 at P2 z5 z8 z9
  have hM : KMs c2 s (L.set i (E.1, v)) f := by
    refine ⟨h1, fun k hk => (PX_o P2 (by decide)).trans (h2 k hk), fun j hj => ?_⟩
    rw [List.length_set] at hj
    rw [getD_setL hi]
    by_cases q : j = i
    · rw [if_pos q, q]
      refine ⟨(PX_o P2 (by decide)).trans a1, (z8 _).trans (if_pos rfl), fun m hm => ?_, fun m hm => ?_⟩
      · have hm : m < E.1.length := hm
        rw [z9, if_neg (by omega)]
        exact a3 m hm
      · have hm : m < v.length := hm
        rw [z9, if_pos (by omega), show o + (132 * f i + 32 + m - (132 * f i + 32)) = o + m by omega]
        exact b4 m hm
    · rw [if_neg q]
      obtain ⟨x1, x2, x3, x4⟩ := h3 j hj
      obtain ⟨w3, w4⟩ := w.2 j hj
      have hne : f j ≠ f i := fun z => q (h1.2 j i (by omega) (by omega) z)
      refine ⟨(PX_o P2 (by decide)).trans x1, (z8 _).trans ((if_neg hne).trans x2), fun m hm => ?_, fun m hm => ?_⟩
      · rw [z9, if_neg (by omega)]
        exact x3 m hm
      · rw [z9, if_neg (by omega)]
        exact x4 m hm
  have hsh : shL (L.set i (E.1, v)) := by
    refine ⟨by rw [List.length_set]; exact hL, fun j hj => ?_⟩
    rw [List.length_set] at hj
    rw [getD_setL hi]
    by_cases q : j = i
    · rw [if_pos q]
      exact ⟨w1, hv⟩
    · rw [if_neg q]
      exact w.2 j hj
  have hun2 := K_units hM hsh (i := i) (by rw [List.length_set]; exact hi)
  rw [getD_setL hi, if_pos rfl] at hun2
  refine WP_eq hun2 (WP_b (WP_some ⟨PX_t P2 (PX_I (by decide)), ?_, ?_⟩))
  · exact KMs_o hM (fun g hg j => csI_f (by omega))
  · rw [csI_e, z5, i_ad]
def gIns (n r : Nat) (i : Nat) : Nat := if i < r then i else if i = r then n else if i ≤ n then i - 1 else i
theorem gIns_lt {n r i : Nat} (hr : r ≤ n) (hn : n < 128) (hi : i < 128) : gIns n r i < 128 := by
  unfold gIns
  split
  · omega
  · split
    · omega
    · split
      · omega
      · omega
theorem gIns_inj {n r i j : Nat} (hr : r ≤ n) (e : gIns n r i = gIns n r j) : i = j := by
  unfold gIns at e
  split at e
  · split at e
    · omega
    · split at e
      · omega
      · split at e
        · omega
        · omega
  · split at e
    · split at e
      · omega
      · split at e
        · omega
        · split at e
          · omega
          · omega
    · split at e
      · split at e
        · omega
        · split at e
          · omega
          · split at e
            · omega
            · omega
      · split at e
        · omega
        · split at e
          · omega
          · split at e
            · omega
            · omega
/-- a key is put in -/
theorem K_insert {c : CS} {s r o u : Nat} {L : List (List Int32 × List Int32)} {f : Nat → Nat} {k : List Int32} (h : KMs c s L f) (w : shL L) (hr : r ≤ L.length) (hn : L.length < 128) (hk : k.length ≤ 32) (ha : kAt c o k) (h4 : cI c 10 s 4 0 = Int32.ofNat L.length) (h5 : cI c 10 s 5 0 = Int32.ofNat u) : WP (k_Machine_insertKey c s (Int32.ofNat r) (Int32.ofNat o) (Int32.ofNat k.length)) (fun c' => PX 10 s [4, 5, 6, 7, 8, 9] c c' ∧ KMs c' s (L.take r ++ (k, []) :: L.drop r) (fun i => f (gIns L.length r i)) ∧ cI c' 10 s 4 0 = Int32.ofNat (L.length + 1) ∧ cI c' 10 s 5 0 = Int32.ofNat (u + aUnit k.length 0)) := by
  obtain ⟨h1, h2, h3⟩ := h
  have hq := h1.1 L.length hn
  obtain ⟨_, b2, b3, b4⟩ := ha
  unfold k_Machine_insertKey k_Machine_insertKey_b0
  rw [h4]
  refine WP_eq (crd_n rfl (show L.length < 128 from hn) (by omega)) ?_
  rw [h2 _ hn, i_s, i_subn hr]
  generalize eQ : f L.length = q at hq
  refine WP_eq (ccpy_n (s := r) (t := r + 1) (n := L.length - r) rfl rfl rfl (show r + (L.length - r) ≤ 128 by omega) (show r + 1 + (L.length - r) ≤ 128 by omega) (by omega) (by omega)) ?_
  have P1 : PX 10 s [4, 5, 6, 7, 8, 9] c (csA c 10 s 6 (fun w => if r + 1 ≤ w ∧ w < r + 1 + (L.length - r) then cI c 10 s 6 (r + (w - (r + 1))) else cI c 10 s 6 w)) := PX_A (by decide)
  have x6 : ∀ j, cI (csA c 10 s 6 (fun w => if r + 1 ≤ w ∧ w < r + 1 + (L.length - r) then cI c 10 s 6 (r + (w - (r + 1))) else cI c 10 s 6 w)) 10 s 6 j = if r + 1 ≤ j ∧ j < r + 1 + (L.length - r) then cI c 10 s 6 (r + (j - (r + 1))) else cI c 10 s 6 j := fun j => cI_A
  have xo : ∀ g j, g ≠ 6 → cI (csA c 10 s 6 (fun w => if r + 1 ≤ w ∧ w < r + 1 + (L.length - r) then cI c 10 s 6 (r + (w - (r + 1))) else cI c 10 s 6 w)) 10 s g j = cI c 10 s g j := fun g j hg => cI_Ao hg
  generalize csA c 10 s 6 (fun w => if r + 1 ≤ w ∧ w < r + 1 + (L.length - r) then cI c 10 s 6 (r + (w - (r + 1))) else cI c 10 s 6 w) = c1 at P1 x6 xo
  refine WP_eq (cwr_n rfl (show r < 128 by omega) (by omega)) (WP_b ?_)
  rw [csI_f (by decide), xo 4 0 (by decide), h4, i_s]
  refine WP_eq (cwr_n rfl (show q < 128 from hq) (by omega)) (WP_eq (cwr_n rfl (show q < 128 from hq) (by omega)) ?_)
  have P2 : PX 10 s [4, 5, 6, 7, 8, 9] c (csI (csI (csI (csI c1 10 s 6 r (Int32.ofNat q)) 10 s 4 0 (Int32.ofNat (L.length + 1))) 10 s 7 q (Int32.ofNat k.length)) 10 s 8 q 0) := PX_t (PX_t (PX_t (PX_t P1 (PX_I (by decide))) (PX_I (by decide))) (PX_I (by decide))) (PX_I (by decide))
  have y6 : ∀ j, cI (csI (csI (csI (csI c1 10 s 6 r (Int32.ofNat q)) 10 s 4 0 (Int32.ofNat (L.length + 1))) 10 s 7 q (Int32.ofNat k.length)) 10 s 8 q 0) 10 s 6 j = if j = r then Int32.ofNat q else if r + 1 ≤ j ∧ j < r + 1 + (L.length - r) then cI c 10 s 6 (r + (j - (r + 1))) else cI c 10 s 6 j := by
    intro j
    rw [csI_f (by decide), csI_f (by decide), csI_f (by decide)]
    by_cases z : j = r
    · rw [if_pos z, z, csI_e]
    · rw [if_neg z, csI_j z, x6]
  have y4 : cI (csI (csI (csI (csI c1 10 s 6 r (Int32.ofNat q)) 10 s 4 0 (Int32.ofNat (L.length + 1))) 10 s 7 q (Int32.ofNat k.length)) 10 s 8 q 0) 10 s 4 0 = Int32.ofNat (L.length + 1) := (csI_f (by decide)).trans ((csI_f (by decide)).trans csI_e)
  have y5 : cI (csI (csI (csI (csI c1 10 s 6 r (Int32.ofNat q)) 10 s 4 0 (Int32.ofNat (L.length + 1))) 10 s 7 q (Int32.ofNat k.length)) 10 s 8 q 0) 10 s 5 0 = Int32.ofNat u := (csI_f (by decide)).trans ((csI_f (by decide)).trans ((csI_f (by decide)).trans ((csI_f (by decide)).trans ((xo 5 0 (by decide)).trans h5))))
  have y7 : ∀ j, cI (csI (csI (csI (csI c1 10 s 6 r (Int32.ofNat q)) 10 s 4 0 (Int32.ofNat (L.length + 1))) 10 s 7 q (Int32.ofNat k.length)) 10 s 8 q 0) 10 s 7 j = if j = q then Int32.ofNat k.length else cI c 10 s 7 j := by
    intro j
    rw [csI_f (by decide)]
    by_cases z : j = q
    · rw [if_pos z, z, csI_e]
    · rw [if_neg z, csI_j z, csI_f (by decide), csI_f (by decide), xo 7 j (by decide)]
  have y8 : ∀ j, cI (csI (csI (csI (csI c1 10 s 6 r (Int32.ofNat q)) 10 s 4 0 (Int32.ofNat (L.length + 1))) 10 s 7 q (Int32.ofNat k.length)) 10 s 8 q 0) 10 s 8 j = if j = q then 0 else cI c 10 s 8 j := by
    intro j
    by_cases z : j = q
    · rw [if_pos z, z, csI_e]
    · rw [if_neg z, csI_j z, csI_f (by decide), csI_f (by decide), csI_f (by decide), xo 8 j (by decide)]
  have y9 : ∀ j, cI (csI (csI (csI (csI c1 10 s 6 r (Int32.ofNat q)) 10 s 4 0 (Int32.ofNat (L.length + 1))) 10 s 7 q (Int32.ofNat k.length)) 10 s 8 q 0) 10 s 9 j = cI c 10 s 9 j := fun j => (csI_f (by decide)).trans ((csI_f (by decide)).trans ((csI_f (by decide)).trans ((csI_f (by decide)).trans (xo 9 j (by decide)))))
  generalize csI (csI (csI (csI c1 10 s 6 r (Int32.ofNat q)) 10 s 4 0 (Int32.ofNat (L.length + 1))) 10 s 7 q (Int32.ofNat k.length)) 10 s 8 q 0 = c2 at P2 y6 y4 y5 y7 y8 y9
  have o4 : ∀ j, cI c2 4 0 3 j = cI c 4 0 3 j := fun j => PX_c P2 (by decide)
  have l4 : cL c2 4 0 3 = cL c 4 0 3 := PX_cL P2
  rw [i_132]
  refine WP_eq (ccpy_n (s := o) (t := 132 * q) (n := k.length) rfl rfl rfl (show o + k.length ≤ cL c2 4 0 3 by omega) (show 132 * q + k.length ≤ 16896 by omega) (by omega) (by omega)) ?_
  have P3 : PX 10 s [4, 5, 6, 7, 8, 9] c (csA c2 10 s 9 (fun w => if 132 * q ≤ w ∧ w < 132 * q + k.length then cI c2 4 0 3 (o + (w - 132 * q)) else cI c2 10 s 9 w)) := PX_t P2 (PX_A (by decide))
  have z9 : ∀ j, cI (csA c2 10 s 9 (fun w => if 132 * q ≤ w ∧ w < 132 * q + k.length then cI c2 4 0 3 (o + (w - 132 * q)) else cI c2 10 s 9 w)) 10 s 9 j = if 132 * q ≤ j ∧ j < 132 * q + k.length then cI c 4 0 3 (o + (j - 132 * q)) else cI c 10 s 9 j := fun j => by
    rw [cI_A, o4, y9]
  have zo : ∀ g j, g ≠ 9 → cI (csA c2 10 s 9 (fun w => if 132 * q ≤ w ∧ w < 132 * q + k.length then cI c2 4 0 3 (o + (w - 132 * q)) else cI c2 10 s 9 w)) 10 s g j = cI c2 10 s g j := fun g j hg => cI_Ao hg
  generalize csA c2 10 s 9 (fun w => if 132 * q ≤ w ∧ w < 132 * q + k.length then cI c2 4 0 3 (o + (w - 132 * q)) else cI c2 10 s 9 w) = c3 at P3 z9 zo
  have hg : ∀ i, (L.take r ++ (k, []) :: L.drop r).getD i ([], []) = if i < r then L.getD i ([], []) else if i = r then (k, []) else L.getD (i - 1) ([], []) := fun i => getD_ins hr
  have hlen : (L.take r ++ (k, []) :: L.drop r).length = L.length + 1 := by
    rw [List.length_append, List.length_cons, List.length_take, List.length_drop]
    omega
  have old : ∀ i, i < L.length → KMe c3 s (f i) (L.getD i ([], [])) := by
    intro i hi
    obtain ⟨x1, x2, x3, x4⟩ := h3 i hi
    obtain ⟨w3, w4⟩ := w.2 i hi
    have hne : f i ≠ q := fun z => by
      have := h1.2 i L.length (by omega) hn (z.trans eQ.symm)
      omega
    refine ⟨(zo 7 _ (by decide)).trans ((y7 _).trans ((if_neg hne).trans x1)), (zo 8 _ (by decide)).trans ((y8 _).trans ((if_neg hne).trans x2)), fun m hm => ?_, fun m hm => ?_⟩
    · rw [z9, if_neg (by omega)]
      exact x3 m hm
    · rw [z9, if_neg (by omega)]
      exact x4 m hm
  have new : KMe c3 s q (k, []) := by
    refine ⟨(zo 7 _ (by decide)).trans ((y7 _).trans (if_pos rfl)), (zo 8 _ (by decide)).trans ((y8 _).trans (if_pos rfl)), fun m hm => ?_, fun m hm => absurd hm (Nat.not_lt_zero _)⟩
    have hm : m < k.length := hm
    rw [z9, if_pos (by omega), show o + (132 * q + m - 132 * q) = o + m by omega]
    exact b4 m hm
  have hM : KMs c3 s (L.take r ++ (k, []) :: L.drop r) (fun i => f (gIns L.length r i)) := by
    refine ⟨⟨fun j hj => h1.1 _ (gIns_lt hr hn hj), fun i j hi hj e => gIns_inj hr (h1.2 _ _ (gIns_lt hr hn hi) (gIns_lt hr hn hj) e)⟩, fun j hj => ?_, fun i hi => ?_⟩
    · rw [zo 6 j (by decide), y6]
      unfold gIns
      dsimp only
      by_cases z1 : j < r
      · rw [if_neg (by omega), if_neg (by omega), if_pos z1]
        exact h2 j hj
      · rw [if_neg z1]
        by_cases z2 : j = r
        · rw [if_pos z2, if_pos z2, eQ]
        · rw [if_neg z2, if_neg z2]
          by_cases z3 : j ≤ L.length
          · rw [if_pos (by omega), if_pos z3, show r + (j - (r + 1)) = j - 1 by omega]
            exact h2 _ (by omega)
          · rw [if_neg (by omega), if_neg z3]
            exact h2 j hj
    · rw [hlen] at hi
      rw [hg]
      unfold gIns
      by_cases z1 : i < r
      · rw [if_pos z1]
        dsimp only
        rw [if_pos z1]
        exact old i (by omega)
      · rw [if_neg z1]
        dsimp only
        rw [if_neg z1]
        by_cases z2 : i = r
        · rw [if_pos z2, if_pos z2, eQ]
          exact new
        · rw [if_neg z2, if_neg z2, if_pos (show i ≤ L.length by omega)]
          exact old _ (by omega)
  have hsh : shL (L.take r ++ (k, []) :: L.drop r) := by
    refine ⟨by omega, fun i hi => ?_⟩
    rw [hlen] at hi
    rw [hg]
    by_cases z1 : i < r
    · rw [if_pos z1]
      exact w.2 i (by omega)
    · rw [if_neg z1]
      by_cases z2 : i = r
      · rw [if_pos z2]
        exact ⟨hk, Nat.zero_le _⟩
      · rw [if_neg z2]
        exact w.2 _ (by omega)
  have hun := K_units hM hsh (i := r) (by omega)
  rw [hg, if_neg (by omega), if_pos rfl] at hun
  refine WP_eq hun (WP_b (WP_some ⟨PX_t P3 (PX_I (by decide)), KMs_o hM (fun g hg j => csI_f (by omega)), (csI_f (by decide)).trans ((zo 4 0 (by decide)).trans y4), ?_⟩))
  rw [csI_e, zo 5 0 (by decide), y5, i_ad]
  rfl
def gDel (n r : Nat) (i : Nat) : Nat := if i < r then i else if i + 1 < n then i + 1 else if i + 1 = n then r else i
theorem gDel_lt {n r i : Nat} (hr : r < n) (hn : n ≤ 128) (hi : i < 128) : gDel n r i < 128 := by
  unfold gDel
  split
  · omega
  · split
    · omega
    · split
      · omega
      · omega
theorem gDel_inj {n r i j : Nat} (hr : r < n) (e : gDel n r i = gDel n r j) : i = j := by
  unfold gDel at e
  split at e
  · split at e
    · omega
    · split at e
      · omega
      · split at e
        · omega
        · omega
  · split at e
    · split at e
      · omega
      · split at e
        · omega
        · split at e
          · omega
          · omega
    · split at e
      · split at e
        · omega
        · split at e
          · omega
          · split at e
            · omega
            · omega
      · split at e
        · omega
        · split at e
          · omega
          · split at e
            · omega
            · omega
/-- a key goes: behind the answer -/
theorem K_delete {c : CS} {s r u : Nat} {L : List (List Int32 × List Int32)} {f : Nat → Nat} (h : KMs c s L f) (w : shL L) (hr : r < L.length) (h4 : cI c 10 s 4 0 = Int32.ofNat L.length) (h5 : cI c 10 s 5 0 = Int32.ofNat u) (hu : aUnit (L.getD r ([], [])).1.length (L.getD r ([], [])).2.length ≤ u) : WP ((crd c 10 s 6 (Int32.ofNat r)).bind fun x17 => (k_Machine_unitsOf c s (Int32.ofNat r)).bind fun p24 => (some (csI c 10 s 5 0 ((cI c 10 s 5 0) - p24))).bind fun σ27 => (some (csI σ27 10 s 4 0 ((cI σ27 10 s 4 0) - ((1 : Int32))))).bind fun σ29 => (ccpy σ29 10 s 6 (Int32.ofNat r + ((1 : Int32))) 10 s 6 (Int32.ofNat r) ((cI σ29 10 s 4 0) - Int32.ofNat r)).bind fun σ31 => (cwr σ31 10 s 6 (cI σ31 10 s 4 0) x17).bind fun σ33 => some σ33) (fun c' => PX 10 s [4, 5, 6] c c' ∧ KMs c' s (L.eraseIdx r) (fun i => f (gDel L.length r i)) ∧ cI c' 10 s 4 0 = Int32.ofNat (L.length - 1) ∧ cI c' 10 s 5 0 = Int32.ofNat (u - aUnit (L.getD r ([], [])).1.length (L.getD r ([], [])).2.length)) := by
  have hL := w.1
  have hun := K_units h w hr
  obtain ⟨h1, h2, h3⟩ := h
  refine WP_eq (crd_n rfl (show r < 128 by omega) (by omega)) ?_
  rw [h2 r (by omega)]
  refine WP_eq hun (WP_b (WP_b ?_))
  rw [h5, i_subn hu, csI_f (by decide), h4, i_pre (by omega)]
  have P1 : PX 10 s [4, 5, 6] c (csI (csI c 10 s 5 0 (Int32.ofNat (u - aUnit (L.getD r ([], [])).1.length (L.getD r ([], [])).2.length))) 10 s 4 0 (Int32.ofNat (L.length - 1))) := PX_t (PX_I (by decide)) (PX_I (by decide))
  have x4 : cI (csI (csI c 10 s 5 0 (Int32.ofNat (u - aUnit (L.getD r ([], [])).1.length (L.getD r ([], [])).2.length))) 10 s 4 0 (Int32.ofNat (L.length - 1))) 10 s 4 0 = Int32.ofNat (L.length - 1) := csI_e
  have x5 : cI (csI (csI c 10 s 5 0 (Int32.ofNat (u - aUnit (L.getD r ([], [])).1.length (L.getD r ([], [])).2.length))) 10 s 4 0 (Int32.ofNat (L.length - 1))) 10 s 5 0 = Int32.ofNat (u - aUnit (L.getD r ([], [])).1.length (L.getD r ([], [])).2.length) := (csI_f (by decide)).trans csI_e
  have x6 : ∀ j, cI (csI (csI c 10 s 5 0 (Int32.ofNat (u - aUnit (L.getD r ([], [])).1.length (L.getD r ([], [])).2.length))) 10 s 4 0 (Int32.ofNat (L.length - 1))) 10 s 6 j = cI c 10 s 6 j := fun j => (csI_f (by decide)).trans (csI_f (by decide))
  generalize csI (csI c 10 s 5 0 (Int32.ofNat (u - aUnit (L.getD r ([], [])).1.length (L.getD r ([], [])).2.length))) 10 s 4 0 (Int32.ofNat (L.length - 1)) = c1 at P1 x4 x5 x6
  rw [x4, i_s, i_subn (show r ≤ L.length - 1 by omega)]
  refine WP_eq (ccpy_n (s := r + 1) (t := r) (n := L.length - 1 - r) rfl rfl rfl (show r + 1 + (L.length - 1 - r) ≤ 128 by omega) (show r + (L.length - 1 - r) ≤ 128 by omega) (by omega) (by omega)) ?_
  have P2 : PX 10 s [4, 5, 6] c (csA c1 10 s 6 (fun w => if r ≤ w ∧ w < r + (L.length - 1 - r) then cI c1 10 s 6 (r + 1 + (w - r)) else cI c1 10 s 6 w)) := PX_t P1 (PX_A (by decide))
  have y6 : ∀ j, cI (csA c1 10 s 6 (fun w => if r ≤ w ∧ w < r + (L.length - 1 - r) then cI c1 10 s 6 (r + 1 + (w - r)) else cI c1 10 s 6 w)) 10 s 6 j = if r ≤ j ∧ j < r + (L.length - 1 - r) then cI c 10 s 6 (r + 1 + (j - r)) else cI c 10 s 6 j := fun j => by
    rw [cI_A, x6, x6]
  have yo : ∀ g j, g ≠ 6 → cI (csA c1 10 s 6 (fun w => if r ≤ w ∧ w < r + (L.length - 1 - r) then cI c1 10 s 6 (r + 1 + (w - r)) else cI c1 10 s 6 w)) 10 s g j = cI c1 10 s g j := fun g j hg => cI_Ao hg
  generalize csA c1 10 s 6 (fun w => if r ≤ w ∧ w < r + (L.length - 1 - r) then cI c1 10 s 6 (r + 1 + (w - r)) else cI c1 10 s 6 w) = c2 at P2 y6 yo
  rw [yo 4 0 (by decide), x4]
  refine WP_eq (cwr_n rfl (show L.length - 1 < 128 by omega) (by omega)) (WP_some ⟨PX_t P2 (PX_I (by decide)), ⟨⟨fun j hj => h1.1 _ (gDel_lt hr hL hj), fun i j hi hj e => gDel_inj hr (h1.2 _ _ (gDel_lt hr hL hi) (gDel_lt hr hL hj) e)⟩, fun j hj => ?_, fun i hi => ?_⟩, (csI_f (by decide)).trans ((yo 4 0 (by decide)).trans x4), (csI_f (by decide)).trans ((yo 5 0 (by decide)).trans x5)⟩)
  · unfold gDel
    dsimp only
    by_cases z0 : j = L.length - 1
    · rw [z0, csI_e, if_neg (by omega), if_neg (by omega), if_pos (by omega)]
    · rw [csI_j z0, y6]
      by_cases z1 : j < r
      · rw [if_neg (by omega), if_pos z1]
        exact h2 j hj
      · rw [if_neg z1]
        by_cases z2 : j + 1 < L.length
        · rw [if_pos (by omega), if_pos z2, show r + 1 + (j - r) = j + 1 by omega]
          exact h2 _ (by omega)
        · rw [if_neg (by omega), if_neg z2, if_neg (by omega)]
          exact h2 j hj
  · rw [List.length_eraseIdx_of_lt hr] at hi
    rw [getD_del]
    have P3 : PX 10 s [4, 5, 6] c (csI c2 10 s 6 (L.length - 1) (Int32.ofNat (f r))) := PX_t P2 (PX_I (by decide))
    have old : ∀ i, i < L.length → KMe (csI c2 10 s 6 (L.length - 1) (Int32.ofNat (f r))) s (f i) (L.getD i ([], [])) := by
      intro i hi
      obtain ⟨x1, x2, x3, x4⟩ := h3 i hi
      exact ⟨(PX_o P3 (by decide)).trans x1, (PX_o P3 (by decide)).trans x2, fun m hm => (PX_o P3 (by decide)).trans (x3 m hm), fun m hm => (PX_o P3 (by decide)).trans (x4 m hm)⟩
    unfold gDel
    by_cases z1 : i < r
    · rw [if_pos z1]
      dsimp only
      rw [if_pos z1]
      exact old i (by omega)
    · rw [if_neg z1]
      dsimp only
      rw [if_neg z1, if_pos (by omega)]
      exact old _ (by omega)
