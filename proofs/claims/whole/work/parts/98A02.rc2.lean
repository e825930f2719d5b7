/-! frames: what is printed by hand -/
theorem PG_fr {c c' : CS} {q : Nat} {F : AF} (h : ∀ f, f < 10 → Sm c c' 11 q f) (y0 : PG c q F) : PG c' q F := by
  unfold PG at y0 ⊢
  simp only [(h 0 (by omega)).1, (h 1 (by omega)).1, (h 2 (by omega)).1, (h 3 (by omega)).1, (h 4 (by omega)).1, (h 5 (by omega)).1, (h 6 (by omega)).1, (h 7 (by omega)).1, (h 6 (by omega)).2.2.1, (h 7 (by omega)).2.2.1]
  exact y0
theorem KSn_fr {c c' : CS} {q : Nat} {F : AF} (h : ∀ f, f < 10 → Sm c c' 11 q f) (y0 : KSn c q F) : KSn c' q F := by
  unfold KSn at y0 ⊢
  simp only [(h 8 (by omega)).1, (h 9 (by omega)).1, (h 8 (by omega)).2.2.1]
  exact y0
theorem KPg_s {c c' : CS} {s : Nat} {fc fk : Nat → AF} (h : ∀ q f, q / 30 = s → f < 10 → Sm c c' 11 q f) (h2 : Sm c c' 6 s 3) (y0 : KPg c s fc fk) : KPg c' s fc fk := by
  intro f hf
  obtain ⟨y1, y2, y3, y4, y5⟩ := y0 f hf
  have e1 : (30 * s + cpg f) / 30 = s := by
    have : cpg f < 30 := by
      unfold cpg
      split
      · omega
      · split
        · omega
        · split <;> omega
    omega
  have e2 : (30 * s + ckp f) / 30 = s := by
    have : ckp f < 30 := by
      unfold ckp
      split
      · omega
      · split
        · omega
        · split <;> omega
    omega
  refine ⟨PG_fr (fun g hg => h _ g e1 hg) y1, PG_fr (fun g hg => h _ g e2 hg) y2, fun a b => ?_, fun z => ⟨(y4 z).1, fun w => KSn_fr (fun g hg => h _ g e1 hg) ((y4 z).2 w)⟩, y5⟩
  obtain ⟨m, m1, m2⟩ := y3 a b
  exact ⟨m, (h2.1 f).trans m1, m2⟩
theorem KPg_fr {D : List Nat} {o : Nat} {c c' : CS} {s : Nat} {fc fk : Nat → AF} (h : Ck D o c c') (q : dj [352, 353, 354, 355, 356, 357, 358, 359, 360, 361, 195] D = true) (y0 : KPg c s fc fk) : KPg c' s fc fk := by
  refine KPg_s (fun p f _ hf => h 11 p f (by omega) (Or.inl (dj_m q (x := 32 * 11 + f) ?_))) (h 6 s 3 (by decide) (Or.inl (dj_m q (x := 195) (by decide)))) y0
  exact (by decide : ∀ f, f < 10 → 32 * 11 + f ∈ [352, 353, 354, 355, 356, 357, 358, 359, 360, 361, 195]) f hf
theorem KPg_ne {D : List Nat} {o : Nat} {c c' : CS} {s : Nat} {fc fk : Nat → AF} (h : Ck D o c c') (q : dj [] D = true) (hne : s ≠ o) (y0 : KPg c s fc fk) : KPg c' s fc fk :=
  KPg_s (fun p f hp _ => h 11 p f (by omega) (Or.inr ⟨rfl, by show (if 11 = 11 then p / 30 else p) ≠ o; rw [if_pos rfl, hp]; exact hne⟩)) (h 6 s 3 (by decide) (Or.inr ⟨rfl, hne⟩)) y0
theorem KSc_fr {D : List Nat} {o : Nat} {c c' : CS} {a : AA} (h : Ck D o c c') (q : dj (sT.map (fun x => 32 * x.2.1 + x.2.2)) D = true) (y0 : KSc c a) : KSc c' a := by
  intro x hx i hi
  rw [(h x.2.1 i x.2.2 ((by decide : ∀ x ∈ sT, x.2.2 < 32) x hx) (Or.inl (dj_m q (List.mem_map.mpr ⟨x, hx, rfl⟩)))).1]
  exact y0 x hx i hi
theorem LR_fr {c c' : CS} {ad : Nat} {l : AL} (h : ∀ f, f < 20 → Sm c c' 8 ad f) (y0 : LR c ad l) : LR c' ad l := by
  obtain ⟨y1, y2, y3, y4, y5⟩ := y0
  have hl : ∀ k, ∀ j ∈ lFs k, j < 20 := by
    intro k j hj
    have : ∀ j ∈ lFs k, j ∈ [6, 7, 8, 9, 10, 11, 12, 13, 14, 15, 16] := by
      unfold lFs
      repeat' split
      all_goals decide
    have := this j hj
    simp at this
    omega
  have h2 : ∀ j ∈ [2, 3, 4, 5], j < 20 := by decide
  refine ⟨fun j hj => ((h j (h2 j hj)).1 0).trans (y1 j hj), fun j hj => ((h j (hl _ j hj)).1 0).trans (y2 j hj), fun z => ?_, fun z => ?_, fun z => ?_⟩
  · rw [(h 17 (by omega)).1]
    exact ⟨(y3 z).1, (y3 z).2.1, fun i hi => ⟨fun j hj => by rw [(h 18 (by omega)).1]; exact ((y3 z).2.2 i hi).1 j hj, ((y3 z).2.2 i hi).2⟩⟩
  · obtain ⟨n, o, x1, x2, x3, x4, x5, x6, x7⟩ := y4 z
    exact ⟨n, o, x1, x2, by rw [(h 17 (by omega)).1]; exact x3, x4, x5, x6, fun i hi => by rw [(h 19 (by omega)).1]; exact x7 i hi⟩
  · rw [(h 17 (by omega)).1]
    exact ⟨fun w => ((h 7 (by omega)).1 0).trans ((y5 z).1 w), (y5 z).2.1, (y5 z).2.2.1, fun i hi => by rw [(h 19 (by omega)).1]; exact (y5 z).2.2.2 i hi⟩
theorem LRp_fr {c c' : CS} {ad : Nat} {p : AP} (h : ∀ f, f < 20 → Sm c c' 8 ad f) (y0 : LRp c ad p) : LRp c' ad p := ⟨((h 0 (by omega)).1 0).trans y0.1, ((h 1 (by omega)).1 0).trans y0.2.1, LR_fr h y0.2.2⟩
/-- letters stay when the lists do and the letters in them -/
theorem KLt_s {c c' : CS} {a : AA} {H : List (Nat × Option AL)} (e15 : cS c' 14 0 15 = cS c 14 0 15) (e16 : cS c' 14 0 16 = cS c 14 0 16) (e7 : ∀ s, s < 7 → cS c' 13 s 7 = cS c 13 s 7) (hT : (cT c).1 ≤ (cT c').1) (h : ∀ ad f, 0 < nC c H ad → (ad, (none : Option AL)) ∉ H → f < 20 → Sm c c' 8 ad f) (y0 : KLt c a H) : KLt c' a H := by
  obtain ⟨y1, y2, y3, y4, y5, y6, y7⟩ := y0
  have hn : ∀ x, nC c' H x = nC c H x := by
    intro x
    unfold nC
    rw [e15, e16, sumN_eq (f := fun s => (cS c' 13 s 7).count x) (g := fun s => (cS c 13 s 7).count x) 7 (fun s hs => by rw [e7 s hs])]
  have nh : ∀ x, (x ∈ cS c 14 0 15 ∨ ∃ s, s < 7 ∧ x ∈ cS c 13 s 7) → (x, (none : Option AL)) ∉ H := by
    intro x hx hl
    have h1 : 0 < (H.map Prod.fst).count x := List.count_pos_iff.mpr (List.mem_map.mpr ⟨_, hl, rfl⟩)
    have h2 := (y1 x).1
    unfold nC at h2
    rcases hx with hx | ⟨s, hs, hx⟩
    · have := List.count_pos_iff.mpr hx
      omega
    · have h3 := List.count_pos_iff.mpr hx
      have h4 := sumN_upd (f := fun s => (cS c 13 s 7).count x) (g := fun t => if t = s then 0 else (cS c 13 t 7).count x) 7 hs (fun i _ hne => by rw [if_neg hne])
      rw [if_pos rfl] at h4
      omega
  have hp : ∀ x, (x ∈ cS c 14 0 15 ∨ ∃ s, s < 7 ∧ x ∈ cS c 13 s 7) → 0 < nC c H x := by
    intro x hx
    unfold nC
    rcases hx with hx | ⟨s, hs, hx⟩
    · have := List.count_pos_iff.mpr hx
      omega
    · have h3 := List.count_pos_iff.mpr hx
      have h4 := sumN_upd (f := fun s => (cS c 13 s 7).count x) (g := fun t => if t = s then 0 else (cS c 13 t 7).count x) 7 hs (fun i _ hne => by rw [if_neg hne])
      rw [if_pos rfl] at h4
      omega
  refine ⟨fun x => ⟨(hn x).symm ▸ (y1 x).1, fun z => Nat.lt_of_lt_of_le ((y1 x).2 ((hn x) ▸ z)) hT⟩, ?_, fun s hs => ?_, fun x hx l hl => ?_, ?_, fun s hs => ?_, y7⟩
  · rw [e15]
    exact F2_mono (fun x hx p hp' => LRp_fr (fun f hf => h x f (hp x (Or.inl hx)) (nh x (Or.inl hx)) hf) hp') y2
  · rw [e7 s hs]
    exact F2_mono (fun x hx p hp' => LR_fr (fun f hf => h x f (hp x (Or.inr ⟨s, hs, hx⟩)) (nh x (Or.inr ⟨s, hs, hx⟩)) hf) hp') (y3 s hs)
  · refine LR_fr (fun f hf => h x.1 f ?_ (fun hl' => ?_) hf) (y4 x hx l hl)
    · have : 0 < (H.map Prod.fst).count x.1 := List.count_pos_iff.mpr (List.mem_map.mpr ⟨_, hx, rfl⟩)
      unfold nC
      omega
    · exfalso
      have h2 := (y1 x.1).1
      have h3 : ∀ (L : List (Nat × Option AL)), x ∈ L → (x.1, (none : Option AL)) ∈ L → 2 ≤ (L.map Prod.fst).count x.1 := by
        intro L
        induction L with
        | nil => intro z; exact absurd z List.not_mem_nil
        | cons y L ih =>
          intro z1 z2
          rw [List.map_cons, List.count_cons]
          rcases List.mem_cons.mp z1 with z1 | z1
          · rcases List.mem_cons.mp z2 with z2 | z2
            · rw [← z1] at z2
              have : x.2 = none := by rw [← z2]
              rw [hl] at this
              cases this
            · have : 0 < (L.map Prod.fst).count x.1 := List.count_pos_iff.mpr (List.mem_map.mpr ⟨_, z2, rfl⟩)
              rw [← z1, if_pos (by simp)]
              omega
          · rcases List.mem_cons.mp z2 with z2 | z2
            · have : 0 < (L.map Prod.fst).count x.1 := List.count_pos_iff.mpr (List.mem_map.mpr ⟨_, z1, rfl⟩)
              rw [← z2, if_pos (by simp)]
              omega
            · have := ih z1 z2
              omega
      have := h3 H hx hl'
      unfold nC at h2
      omega
  · rw [e15]
    exact y5
  · rw [e7 s hs]
    exact y6 s hs
theorem KLt_fr {D : List Nat} {o : Nat} {c c' : CS} {a : AA} {H : List (Nat × Option AL)} (h : Ck D o c c') (hT : cT c' = cT c) (q : dj [463, 464, 423, 256, 257, 258, 259, 260, 261, 262, 263, 264, 265, 266, 267, 268, 269, 270, 271, 272, 273, 274, 275] D = true) (y0 : KLt c a H) : KLt c' a H :=
  KLt_s (h 14 0 15 (by decide) (Or.inl (dj_m q (x := 463) (by decide)))).2.2.2 (h 14 0 16 (by decide) (Or.inl (dj_m q (x := 464) (by decide)))).2.2.2 (fun s _ => (h 13 s 7 (by decide) (Or.inl (dj_m q (x := 423) (by decide)))).2.2.2) (by rw [hT]; exact Nat.le_refl _) (fun ad f _ _ hf => h 8 ad f (by omega) (Or.inl (dj_m q (x := 32 * 8 + f) ((by decide : ∀ f, f < 20 → 32 * 8 + f ∈ [463, 464, 423, 256, 257, 258, 259, 260, 261, 262, 263, 264, 265, 266, 267, 268, 269, 270, 271, 272, 273, 274, 275]) f hf)))) y0
theorem gA_eq {w : Nat → Nat} {c c' : CS} (h11 : ∀ i, i < 210 → cL c' 11 i 6 = cL c 11 i 6 ∧ cL c' 11 i 7 = cL c 11 i 7 ∧ cL c' 11 i 8 = cL c 11 i 8) (h7 : ∀ s, s < 7 → cL c' 10 s 14 = cL c 10 s 14 ∧ cL c' 13 s 18 = cL c 13 s 18 ∧ cL c' 13 s 7 = cL c 13 s 7) (h : cL c' 4 0 2 = cL c 4 0 2 ∧ cL c' 4 0 3 = cL c 4 0 3 ∧ cL c' 14 0 15 = cL c 14 0 15 ∧ cL c' 14 0 16 = cL c 14 0 16) : gA w c' = gA w c := by
  unfold gA
  rw [sumN_eq 210 (fun i hi => by rw [(h11 i hi).1, (h11 i hi).2.1, (h11 i hi).2.2]), sumN_eq 7 (fun s hs => by rw [(h7 s hs).1, (h7 s hs).2.1, (h7 s hs).2.2]), h.1, h.2.1, h.2.2.1, h.2.2.2]
theorem KRm_fr {D : List Nat} {o : Nat} {c c' : CS} {v : CV} (h : Ck D o c c') (hT : cT c' = cT c) (q : dj [358, 359, 360, 334, 434, 423, 130, 131, 463, 464] D = true) (y0 : KRm c v) : KRm c' v := by
  have e : ∀ cl i f, f < 32 ∧ 32 * cl + f ∈ [358, 359, 360, 334, 434, 423, 130, 131, 463, 464] → Sm c c' cl i f := fun cl i f z => h cl i f z.1 (Or.inl (dj_m q z.2))
  have g : ∀ w, gA w c' = gA w c := fun w => gA_eq (fun i _ => ⟨(e 11 i 6 (by decide)).2.2.1, (e 11 i 7 (by decide)).2.2.1, (e 11 i 8 (by decide)).2.2.1⟩) (fun s _ => ⟨(e 10 s 14 (by decide)).2.2.1, (e 13 s 18 (by decide)).2.2.1, (e 13 s 7 (by decide)).2.2.1⟩) ⟨(e 4 0 2 (by decide)).2.2.1, (e 4 0 3 (by decide)).2.2.1, (e 14 0 15 (by decide)).2.2.1, (e 14 0 16 (by decide)).2.2.1⟩
  have n : nL c' v.1.1 = nL c v.1.1 := by
    unfold nL
    rw [(e 14 0 15 (by decide)).2.2.2, (e 14 0 16 (by decide)).2.2.2, sumN_eq (f := fun s => (cS c' 13 s 7).length) (g := fun s => (cS c 13 s 7).length) 7 (fun s _ => by rw [(e 13 s 7 (by decide)).2.2.2])]
  obtain ⟨y1, y2, y3, y4, y5, y6⟩ := y0
  refine ⟨by rw [hT, n, g]; exact y1, by rw [hT, n, g]; exact y2, by rw [n]; exact y3, fun i hi => ?_, fun s hs => ?_, ?_⟩
  · rw [(e 11 i 6 (by decide)).2.2.1, (e 11 i 7 (by decide)).2.2.1, (e 11 i 8 (by decide)).2.2.1]
    exact y4 i hi
  · rw [(e 10 s 14 (by decide)).2.2.1, (e 13 s 18 (by decide)).2.2.1, (e 13 s 7 (by decide)).2.2.1]
    exact y5 s hs
  · rw [(e 4 0 2 (by decide)).2.2.1, (e 4 0 3 (by decide)).2.2.1, (e 14 0 15 (by decide)).2.2.1, (e 14 0 16 (by decide)).2.2.1]
    exact y6
/-! numbers by themselves -/
theorem K_r {c : CS} {a : AA} {v : CV} {F cl f i : Nat} (h : RC c a v) (hm : (F, cl, f) ∈ sT) (hi : i < ccnt cl) : cI c cl i f 0 = aS a F i := h.1 _ hm i hi
theorem csI_e {c : CS} {cl i f j : Nat} {x : Int32} : cI (csI c cl i f j x) cl i f j = x := if_pos ⟨rfl, rfl, rfl, rfl⟩
theorem csI_ne {c : CS} {cl i f j cl' i' f' j' : Nat} {x : Int32} (h : ¬ (cl' = cl ∧ i' = i ∧ f' = f ∧ j' = j)) : cI (csI c cl i f j x) cl' i' f' j' = cI c cl' i' f' j' := if_neg h
theorem csI_cl {c : CS} {cl i f j cl' i' f' j' : Nat} {x : Int32} (h : cl' ≠ cl) : cI (csI c cl i f j x) cl' i' f' j' = cI c cl' i' f' j' := if_neg (fun z => h z.1)
theorem csI_f {c : CS} {cl i f j cl' i' f' j' : Nat} {x : Int32} (h : f' ≠ f) : cI (csI c cl i f j x) cl' i' f' j' = cI c cl' i' f' j' := if_neg (fun z => h z.2.2.1)
theorem csI_j {c : CS} {cl i f j cl' i' f' j' : Nat} {x : Int32} (h : j' ≠ j) : cI (csI c cl i f j x) cl' i' f' j' = cI c cl' i' f' j' := if_neg (fun z => h z.2.2.2)
theorem csI_J {c : CS} {cl i f j : Nat} {x : Int32} : cJ (csI c cl i f j x) = cJ c := rfl
theorem sT_u : ∀ x ∈ sT, ∀ y ∈ sT, (x.1 = y.1 ↔ (x.2.1 = y.2.1 ∧ x.2.2 = y.2.2)) := by decide +kernel
theorem KSc_I {c : CS} {a : AA} {F cl f i : Nat} {x : Int32} (hm : (F, cl, f) ∈ sT) (h : KSc c a) : KSc (csI c cl i f 0 x) (aI a F i x) := by
  intro y hy j hj
  have u := sT_u y hy _ hm
  show (if y.2.1 = cl ∧ j = i ∧ y.2.2 = f ∧ 0 = 0 then x else cI c y.2.1 j y.2.2 0) = (if y.1 = F ∧ j = i then x else aS a y.1 j)
  by_cases q : y.1 = F ∧ j = i
  · rw [if_pos q, if_pos ⟨(u.mp q.1).1, q.2, (u.mp q.1).2, rfl⟩]
  · rw [if_neg q, if_neg (fun z => q ⟨u.mpr ⟨z.1, z.2.2.1⟩, z.2.1⟩)]
    exact h y hy j hj
theorem nwOK_I {a : AA} {F i : Nat} {x : Int32} (h : nwOK a) (hf : F ≠ 1 ∧ F ≠ 72 ∧ F ≠ 71 ∧ F ≠ 27) : nwOK (aI a F i x) := by
  unfold nwOK aNow at h ⊢
  simp only [aS_If (Ne.symm hf.1), aS_If (Ne.symm hf.2.1), aS_If (Ne.symm hf.2.2.1), aS_If (Ne.symm hf.2.2.2)]
  exact h
def frK' : List Nat := [2, 3, 21, 22, 24, 25, 26, 53, 54, 74, 79, 55, 57, 58, 56, 65, 64, 75, 76, 77, 80, 81, 45, 150, 125, 126, 127, 128, 129, 141]
theorem frK_d : ∀ F ∈ frK', ∀ x ∈ sT, x.1 = F → dj [199, 430, 224, 225, 226, 227, 228, 229, 230, 231, 232, 233, 384, 385, 386, 387, 388, 389, 390, 392, 458, 459, 460, 461, 462, 457, 194, 289, 352, 353, 354, 355, 356, 357, 358, 359, 360, 361, 195, 196, 197, 321, 322, 323, 324, 325, 326, 327, 328, 329, 433, 434, 169, 170, 171, 172, 173, 128, 130, 131, 132, 484, 485, 486, 487, 416, 288, 435, 160, 463, 464, 423, 256, 257, 258, 259, 260, 261, 262, 263, 264, 265, 266, 267, 268, 269, 270, 271, 272, 273, 274, 275, 334] [32 * x.2.1 + x.2.2] = true := by decide +kernel
theorem dj_sub {A B D : List Nat} (h : dj B D = true) (q : A.all (fun x => B.contains x) = true) : dj A D = true := by
  refine List.all_eq_true.mpr (fun x hx => ?_)
  have h1 := List.all_eq_true.mp q x hx
  simp only [List.contains_iff_mem] at h1
  exact List.all_eq_true.mp h x h1
theorem RC_I {c : CS} {a : AA} {v : CV} {F cl f i : Nat} {x : Int32} (h : RC c a v) (hm : (F, cl, f) ∈ sT) (hf : F ∈ frK') : RC (csI c cl i f 0 x) (aI a F i x) v := by
  have hF : Ck [32 * cl + f] (cOwn cl i) c (csI c cl i f 0 x) := Ck_I (Or.inr rfl)
  have hd := frK_d F hf _ hm rfl
  have nf : ∀ g, g ∉ frK' → ∀ j, aS (aI a F i x) g j = aS a g j := fun g hg j => aS_If (fun z => hg (z ▸ hf))
  have n52 := nf 52 (by decide)
  have n46 := nf 46 (by decide)
  have n78 := nf 78 (by decide)
  have n73 := nf 73 (by decide)
  have n151 := nf 151 (by decide)
  have n69 := nf 69 (by decide)
  have n70 := nf 70 (by decide)
  have n124 := nf 124 (by decide)
  have n137 := nf 137 (by decide)
  have n131 := nf 131 (by decide)
  have n130 := nf 130 (by decide)
  have n145 := nf 145 (by decide)
  have n47 := nf 47 (by decide)
  have n67 := nf 67 (by decide)
  have n29 := nf 29 (by decide)
  have n30 := nf 30 (by decide)
  have n31 := nf 31 (by decide)
  have n32 := nf 32 (by decide)
  have n23 := nf 23 (by decide)
  have n72 := nf 72 (by decide)
  have n43 := nf 43 (by decide)
  have n82 := nf 82 (by decide)
  have n83 := nf 83 (by decide)
  have n86 := nf 86 (by decide)
  have n87 := nf 87 (by decide)
  have n88 := nf 88 (by decide)
  have n89 := nf 89 (by decide)
  have n90 := nf 90 (by decide)
  have n91 := nf 91 (by decide)
  have n92 := nf 92 (by decide)
  have n93 := nf 93 (by decide)
  have hn : nwOK (aI a F i x) := nwOK_I h.2.2.2.2.2.2.2.2.2.2.2.2.2.2.2.2.2.2.2.2.2.2 ⟨fun z => (by decide : 1 ∉ frK') (z ▸ hf), fun z => (by decide : 72 ∉ frK') (z ▸ hf), fun z => (by decide : 71 ∉ frK') (z ▸ hf), fun z => (by decide : 27 ∉ frK') (z ▸ hf)⟩
  unfold RC
  have eb : KBl (csI c cl i f 0 x) (aI a F i x) := by
    have := KBl_fr hF (dj_sub hd (by decide)) h.2.2.2.2.2.1
    unfold KBl aBn aBt at this ⊢
    simp only [n29, n30, n31, n32]
    exact this
  have ed : KDa (csI c cl i f 0 x) (aI a F i x) := by
    have := KDa_fr hF (dj_sub hd (by decide)) h.2.2.2.2.2.2.1
    unfold KDa at this ⊢
    simp only [n23, n72]
    exact this
  have el : ∀ s, s < 7 → KLw (csI c cl i f 0 x) (aI a F i x) s := by
    intro s hs
    have := KLw_fr hF (dj_sub hd (by decide)) (h.2.2.2.2.2.2.2.1 s hs)
    unfold KLw at this ⊢
    simp only [n43]
    exact this
  have eh : ∀ s, s < 7 → aS (aI a F i x) 73 s = 3 → KLd (csI c cl i f 0 x) (aI a F i x) s := by
    intro s hs hr
    rw [n73] at hr
    have := KLd_fr hF (dj_sub hd (by decide)) (h.2.2.2.1 s hs hr)
    unfold KLd at this ⊢
    simp only [n82, n83, n86, n87, n88, n89, n90, n91, n92, n93]
    exact this
  have es : ∀ s, s < 7 → aS (aI a F i x) 52 s = 1 → shOK (aI a F i x) s := by
    intro s hs hu
    rw [n52] at hu
    have := h.2.2.2.2.2.2.2.2.2.2.2.2.2.2.2.2.2.2.2.2.2.1 s hs hu
    unfold shOK at this ⊢
    simp only [n47, n67]
    exact this
  simp only [n52, n46, n78, n151, n69, n70, n124, n137, n131, n130, n145] at es ⊢
  exact ⟨KSc_I hm h.1, fun s hs hu => KFr_fr hF (dj_sub hd (by decide)) (h.2.1 s hs hu), fun s hs => KHd_fr hF (dj_sub hd (by decide)) (h.2.2.1 s hs), eh, fun s hs hu => KRq_fr hF (dj_sub hd (by decide)) (h.2.2.2.2.1 s hs hu), eb, ed, el, fun s hs => KG_fr hF (dj_sub hd (by decide)) (h.2.2.2.2.2.2.2.2.1 s hs), fun s hs => KPg_fr hF (dj_sub hd (by decide)) (h.2.2.2.2.2.2.2.2.2.1 s hs), fun s hs => KCh_fr hF (dj_sub hd (by decide)) (h.2.2.2.2.2.2.2.2.2.2.1 s hs), fun s hs => KMc_fr hF (dj_sub hd (by decide)) (h.2.2.2.2.2.2.2.2.2.2.2.1 s hs), fun s hs => KPc_fr hF (dj_sub hd (by decide)) (h.2.2.2.2.2.2.2.2.2.2.2.2.1 s hs), fun k hk => KCl_fr hF (dj_sub hd (by decide)) (h.2.2.2.2.2.2.2.2.2.2.2.2.2.1 k hk), fun k hk => KDn_fr hF (dj_sub hd (by decide)) (h.2.2.2.2.2.2.2.2.2.2.2.2.2.2.1 k hk), KAk_fr hF (dj_sub hd (by decide)) h.2.2.2.2.2.2.2.2.2.2.2.2.2.2.2.1, KFc_fr hF (dj_sub hd (by decide)) h.2.2.2.2.2.2.2.2.2.2.2.2.2.2.2.2.1, fun s hs => KId_fr hF (dj_sub hd (by decide)) (h.2.2.2.2.2.2.2.2.2.2.2.2.2.2.2.2.2.1 s hs), fun k hk => KIc_fr hF (dj_sub hd (by decide)) (h.2.2.2.2.2.2.2.2.2.2.2.2.2.2.2.2.2.2.1 k hk), KLt_fr hF rfl (dj_sub hd (by decide)) h.2.2.2.2.2.2.2.2.2.2.2.2.2.2.2.2.2.2.2.1, KRm_fr hF rfl (dj_sub hd (by decide)) h.2.2.2.2.2.2.2.2.2.2.2.2.2.2.2.2.2.2.2.2.1, es, hn⟩
