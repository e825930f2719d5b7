/-! Arrays.fill over arrays of fixed length in the class's memory (lcF) -/
theorem cln_b (cl f : Nat) (h : cK cl f = 2) : cln cl f ≤ 1000000 := by
  by_cases a : cl < 16
  · by_cases b : f < 40
    · exact (by decide +kernel : ∀ cl, cl < 16 → ∀ f, f < 40 → cK cl f = 2 → cln cl f ≤ 1000000) cl a f b h
    · exfalso
      have hl : (cTab.getD cl []).length ≤ 40 := (by decide +kernel : ∀ cl, cl < 16 → (cTab.getD cl []).length ≤ 40) cl a
      unfold cK cFt at h
      rw [show (cTab.getD cl []).getD f (9, 0, 0) = (9, 0, 0) from by rw [List.getD_eq_getElem?_getD, List.getElem?_eq_none (by omega)]; rfl] at h
      cases h
  · exfalso
    have hl : cTab.length = 16 := rfl
    unfold cK cFt at h
    rw [show cTab.getD cl [] = [] from by rw [List.getD_eq_getElem?_getD, List.getElem?_eq_none (by omega)]; rfl] at h
    cases h
section YF
variable {E : CE} {pF : Nat → List Value → xH → Option (Option Value × xH)} {g : CG} {c : CS} {cl i f : Nat} {d : Nat} {v : Int32}
theorem cal_2 (hk : cK cl f = 2) : cal c cl i f = cln cl f := by
  unfold cal
  rw [if_neg (by omega)]
/-- the places a up to b are v -/
def yfl (c : CS) (cl i f a b : Nat) (v : Int32) : CS := csA c cl i f (fun y => if a ≤ y ∧ y < b then v else cI c cl i f y)
theorem yfl_0 {a : Nat} : yfl c cl i f a a v = c := by
  unfold yfl csA
  refine Prod.ext ?_ rfl
  funext x y z w
  show (if x = cl ∧ y = i ∧ z = f then _ else _) = _
  by_cases q : x = cl ∧ y = i ∧ z = f
  · rw [if_pos q, if_neg (by omega)]
    obtain ⟨rfl, rfl, rfl⟩ := q
    rfl
  · rw [if_neg q]
theorem yfl_s {a b : Nat} (h : a ≤ b) : csI (yfl c cl i f a b v) cl i f b v = yfl c cl i f a (b + 1) v := by
  unfold yfl csA csI
  refine Prod.ext ?_ rfl
  funext x y z w
  show (if x = cl ∧ y = i ∧ z = f ∧ w = b then _ else if x = cl ∧ y = i ∧ z = f then _ else _) = (if x = cl ∧ y = i ∧ z = f then _ else _)
  by_cases q : x = cl ∧ y = i ∧ z = f
  · by_cases q2 : w = b
    · rw [if_pos ⟨q.1, q.2.1, q.2.2, q2⟩, if_pos q, if_pos ⟨by omega, by omega⟩]
    · rw [if_neg (fun z => q2 z.2.2.2), if_pos q, if_pos q]
      by_cases q3 : a ≤ w ∧ w < b
      · rw [if_pos q3, if_pos ⟨by omega, by omega⟩]
      · rw [if_neg q3, if_neg (by omega)]
  · rw [if_neg (fun z => q ⟨z.1, z.2.1, z.2.2.1⟩), if_neg q, if_neg q]
theorem yfl_ob {a b : Nat} (ho : cob c cl i) : cob (yfl c cl i f a b v) cl i := (cob_of rfl).mpr ho
theorem yfl_w {a b : Nat} (h : a ≤ b) (hk : cK cl f = 2) (hb : b < cln cl f) : cwr (yfl c cl i f a b v) cl i f (Int32.ofNat b) v = some (yfl c cl i f a (b + 1) v) := by
  have hc := cln_b cl f hk
  obtain ⟨n1, n2⟩ := y_ofn (n := b) (by omega)
  unfold cwr
  rw [if_neg (by rw [cal_2 hk, n1]; exact fun z => z.elim n2 (fun z => by omega)), n1, yfl_s h]
theorem y_ge {x y : Nat} (hx : x ≤ 1000000) (hy : y ≤ 1000000) : xc2 .ge (Int32.ofNat x) (Int32.ofNat y) = true ↔ y ≤ x := by
  have h := y_lt hx hy
  show decide (Int32.ofNat y ≤ Int32.ofNat x) = true ↔ _
  rw [decide_eq_true_iff, ← Int32.not_lt, h]
  omega
theorem y_lcFill (hp : ∀ y as h, y ≠ 389 → y ≠ 7 → y ≠ 9 → pF y as h = none) : lcFill pF (d + 1) := by
  intro E g c c' cl i f v hk ht ho hx
  cases hx
  have hc := cln_b cl f hk
  have ecl : csfill c cl i f v = yfl c cl i f 0 (cln cl f) v := by
    unfold csfill yfl
    congr 1
    funext y
    rw [cal_2 hk]
    by_cases q : y < cln cl f
    · rw [if_pos q, if_pos ⟨Nat.zero_le _, q⟩]
    · rw [if_neg q, if_neg (by omega)]
  rw [ecl]
  have loop : ∀ m b lv, b + m = cln cl f → xg lv 0 = some (.ref (car E g cl i f)) → xg lv 1 = some (.int v) → xg lv 2 = some (.int (Int32.ofNat b)) → xg lv 3 = some (.int (Int32.ofNat (cln cl f))) →
      cR E cQ1 pF d kT393 18 4 none none (yfl c cl i f 0 (cln cl f) v) g (yfl c cl i f 0 b v) (5, lv, []) := by
    intro m
    induction m with
    | zero =>
      intro b lv hb g0 g1 g2 g3
      refine cR_lift (fun _ _ kk => eE_iload_n yl393_5 g2 kk) ?_
      refine cR_lift (fun _ _ kk => eE_iload_n yl393_6 g3 kk) ?_
      refine cR_icmp (t := 20) yl393_7 (by decide) (fun _ => ?_) (fun q => absurd ((y_ge (by omega) (by omega)).mpr (by omega)) q)
      rw [show b = cln cl f by omega]
      exact cR_end yl393_20 rfl rfl rfl
    | succ m ih =>
      intro b lv hb g0 g1 g2 g3
      refine cR_lift (fun _ _ kk => eE_iload_n yl393_5 g2 kk) ?_
      refine cR_lift (fun _ _ kk => eE_iload_n yl393_6 g3 kk) ?_
      refine cR_icmp (t := 20) yl393_7 (by decide) (fun q => ?_) (fun _ => ?_)
      · have := (y_ge (by omega) (by omega)).mp q
        omega
      refine cR_lift (fun _ _ kk => eE_aload_n yl393_10 g0 kk) ?_
      refine cR_lift (fun _ _ kk => eE_iload_n yl393_11 g2 kk) ?_
      refine cR_lift (fun _ _ kk => eE_iload_n yl393_12 g1 kk) ?_
      refine cR_iast (cl := cl) (i := i) (f := f) yl393_13 (Or.inl hk) ht (yfl_ob ho) (yfl_w (Nat.zero_le _) hk (by omega)) ?_
      refine cR_inc (j := 2) (v := Int32.ofNat (b + 1)) yl393_14 g2 (by rw [← y_add]; rfl) (by decide) (fun lv' q2 k2 => ?_)
      refine cR_lift (fun _ _ kk => eE_goto (t := 5) yl393_17 (by decide) kk) ?_
      exact ih (b + 1) lv' (by omega) (k2 0 _ (by decide) (fun _ => rfl) g0) (k2 1 _ (by decide) (fun _ => rfl) g1) q2 (k2 3 _ (by decide) (fun _ => rfl) g3)
  refine cCo_R ykk_393 ymo_393 yni_393 yxm_393 (Nat.le_of_ble_eq_true rfl) (hp _ _ · (by decide) (by decide) (by decide)) ?_
  refine cR_lift (fun _ _ kk => eE_iconst (v := 0) yl393_0 (by decide) kk) ?_
  refine cR_stI (j := 2) yl393_1 (Or.inr ⟨2, rfl, rfl⟩) (by decide) (fun lv1 q2 k2 => ?_)
  have g0 : xg lv1 0 = some (.ref (car E g cl i f)) := k2 0 _ (by decide) (fun _ => rfl) rfl
  have g1 : xg lv1 1 = some (.int v) := k2 1 _ (by decide) (fun _ => rfl) rfl
  refine cR_lift (fun _ _ kk => eE_aload_n yl393_2 g0 kk) ?_
  refine cR_alen (cl := cl) (i := i) (f := f) yl393_3 (Or.inl hk) (by omega) ho ?_
  rw [cal_2 hk]
  refine cR_stI (j := 3) yl393_4 (Or.inr ⟨3, rfl, rfl⟩) (by decide) (fun lv2 q3 k3 => ?_)
  have := loop (cln cl f) 0 lv2 (by omega) (k3 0 _ (by decide) (fun _ => rfl) g0) (k3 1 _ (by decide) (fun _ => rfl) g1) (k3 2 _ (by decide) (fun _ => rfl) q2) q3
  rw [yfl_0] at this
  exact this
theorem y_lcFillr (hp : ∀ y as h, y ≠ 389 → y ≠ 7 → y ≠ 9 → pF y as h = none) : lcFillr pF (d + 2) := by
  intro E g c c' cl i f a b v hk ht ho hx
  unfold csfillr at hx
  obtain ⟨h1, hx⟩ := cif_s hx
  have ha0 : ¬ a < 0 := fun z => h1 (Or.inl z)
  have hab : ¬ b < a := fun z => h1 (Or.inr (Or.inl z))
  have hbc : b.toNatClampNeg ≤ cln cl f := by
    have : ¬ cal c cl i f < b.toNatClampNeg := fun z => h1 (Or.inr (Or.inr z))
    rw [cal_2 hk] at this
    omega
  have hc := cln_b cl f hk
  have hb0 : ¬ b < 0 := fun z => hab (Int32.lt_of_lt_of_le z (Int32.not_lt.mp ha0))
  have ea := x_ge0 ha0
  have eb := x_ge0 hb0
  have hle : a.toNatClampNeg ≤ b.toNatClampNeg := by
    have : ¬ b.toInt < a.toInt := fun z => hab (Int32.lt_iff_toInt_lt.mpr z)
    omega
  generalize hA : a.toNatClampNeg = A at hx hle
  generalize hB : b.toNatClampNeg = B at hx hle hbc
  have e1 : a = Int32.ofNat A := by rw [← hA]; exact y_toN ha0 (by omega)
  have e2 : b = Int32.ofNat B := by rw [← hB]; exact y_toN hb0 (by omega)
  have hx : c' = yfl c cl i f A B v := hx.symm
  subst hx
  have loop : ∀ m k lv, k + m = B → A ≤ k → xg lv 0 = some (.ref (car E g cl i f)) → xg lv 2 = some (.int (Int32.ofNat B)) → xg lv 3 = some (.int v) → xg lv 4 = some (.int (Int32.ofNat k)) →
      cR E cQ1 pF (d + 1) kT394 18 5 none none (yfl c cl i f A B v) g (yfl c cl i f A k v) (10, lv, []) := by
    intro m
    induction m with
    | zero =>
      intro k lv hb ha g0 g2 g3 g4
      refine cR_lift (fun _ _ kk => eE_iload yl394_10 g4 kk) ?_
      refine cR_lift (fun _ _ kk => eE_iload_n yl394_12 g2 kk) ?_
      refine cR_icmp (t := 27) yl394_13 (by decide) (fun _ => ?_) (fun q => absurd ((y_ge (by omega) (by omega)).mpr (by omega)) q)
      rw [show k = B by omega]
      exact cR_end yl394_27 rfl rfl rfl
    | succ m ih =>
      intro k lv hb ha g0 g2 g3 g4
      refine cR_lift (fun _ _ kk => eE_iload yl394_10 g4 kk) ?_
      refine cR_lift (fun _ _ kk => eE_iload_n yl394_12 g2 kk) ?_
      refine cR_icmp (t := 27) yl394_13 (by decide) (fun q => ?_) (fun _ => ?_)
      · have := (y_ge (by omega) (by omega)).mp q
        omega
      refine cR_lift (fun _ _ kk => eE_aload_n yl394_16 g0 kk) ?_
      refine cR_lift (fun _ _ kk => eE_iload yl394_17 g4 kk) ?_
      refine cR_lift (fun _ _ kk => eE_iload_n yl394_19 g3 kk) ?_
      refine cR_iast (cl := cl) (i := i) (f := f) yl394_20 (Or.inl hk) ht (yfl_ob ho) (yfl_w ha hk (by omega)) ?_
      refine cR_inc (j := 4) (v := Int32.ofNat (k + 1)) yl394_21 g4 (by rw [← y_add]; rfl) (by decide) (fun lv' q2 k2 => ?_)
      refine cR_lift (fun _ _ kk => eE_goto (t := 10) yl394_24 (by decide) kk) ?_
      exact ih (k + 1) lv' (by omega) (by omega) (k2 0 _ (by decide) (fun _ => rfl) g0) (k2 2 _ (by decide) (fun _ => rfl) g2) (k2 3 _ (by decide) (fun _ => rfl) g3) q2
  refine cCo_R ykk_394 ymo_394 yni_394 yxm_394 (Nat.le_of_ble_eq_true rfl) (hp _ _ · (by decide) (by decide) (by decide)) ?_
  refine cR_lift (fun _ _ kk => eE_aload_n yl394_0 (x := car E g cl i f) rfl kk) ?_
  refine cR_alen (cl := cl) (i := i) (f := f) yl394_1 (Or.inl hk) (by omega) ho ?_
  rw [cal_2 hk]
  refine cR_lift (fun _ _ kk => eE_iload_n yl394_2 (x := a) rfl kk) ?_
  refine cR_lift (fun _ _ kk => eE_iload_n yl394_3 (x := b) rfl kk) ?_
  refine cR_stat (as := [.int (Int32.ofNat (cln cl f)), .int a, .int b]) (r := none) (c1 := c) yl394_4 ymr_18_13 yna_395 rfl rfl (Nat.le_of_ble_eq_true rfl) ymm_395 yws_395 ?_ (fun _ => ?_)
  · refine cCo_R ykk_395 ymo_395 yni_395 yxm_395 (Nat.le_of_ble_eq_true rfl) (hp _ _ · (by decide) (by decide) (by decide)) ?_
    refine cR_lift (fun _ _ kk => eE_iload_n yl395_0 (x := a) rfl kk) ?_
    refine cR_lift (fun _ _ kk => eE_iload_n yl395_1 (x := b) rfl kk) ?_
    refine cR_icmp (t := 46) yl395_2 (by decide) (fun _ => ?_) (fun q => absurd (decide_eq_true (Int32.not_lt.mp hab)) q)
    refine cR_lift (fun _ _ kk => eE_iload_n yl395_46 (x := a) rfl kk) ?_
    refine cR_if (t := 59) yl395_47 (by decide) (fun _ => ?_) (fun q => absurd (decide_eq_true (Int32.not_lt.mp ha0)) q)
    refine cR_lift (fun _ _ kk => eE_iload_n yl395_59 (x := b) rfl kk) ?_
    refine cR_lift (fun _ _ kk => eE_iload_n yl395_60 (x := Int32.ofNat (cln cl f)) rfl kk) ?_
    refine cR_icmp (t := 73) yl395_61 (by decide) (fun _ => ?_) (fun q => absurd (decide_eq_true (Int32.not_lt.mp (show ¬ Int32.ofNat (cln cl f) < b by rw [e2, y_lt (by omega) (by omega)]; omega))) q)
    exact cR_end yl395_73 rfl rfl rfl
  refine cR_lift (fun _ _ kk => eE_iload_n yl394_7 (x := a) rfl kk) ?_
  refine cR_stI (j := 4) yl394_8 (Or.inl rfl) (by decide) (fun lv1 q4 k4 => ?_)
  have := loop (B - A) A lv1 (by omega) (Nat.le_refl _) (k4 0 _ (by decide) (fun q => absurd q (by decide)) rfl) (k4 2 _ (by decide) (fun q => absurd q (by decide)) (by rw [← e2]; rfl)) (k4 3 _ (by decide) (fun _ => rfl) rfl) (by rw [← e1]; exact q4)
  rw [yfl_0] at this
  exact this
theorem y_lcF (hp : ∀ y as h, y ≠ 389 → y ≠ 7 → y ≠ 9 → pF y as h = none) : lcF pF := fun d => ⟨y_lcFill (d := d + 8) hp, y_lcFillr (d := d + 7) hp⟩
theorem y_xNPc (hp : ∀ y as h, y ≠ 389 → y ≠ 7 → y ≠ 9 → pF y as h = none) : xNPc pF := fun y hy as h => hp y as h (by omega) (by omega) (by omega)
end YF
