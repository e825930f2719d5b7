/-! ArrayList's members over plain heaps -/
def yV (m : Int32) (e n : Nat) : Nat → Value := fun q => if q = 0 then .int m else if q = 1 then .ref e else if q = 2 then .int (Int32.ofNat n) else .int 0
theorem yV0 {m m' : Int32} {e n : Nat} : updV (yV m e n) 0 (.int m') = yV m' e n := by
  funext q
  unfold updV yV
  by_cases h1 : q = 0 <;> simp [h1]
theorem yV1 {m : Int32} {e e' n : Nat} : updV (yV m e n) 1 (.ref e') = yV m e' n := by
  funext q
  unfold updV yV
  by_cases h1 : q = 1
  · subst h1; rfl
  · simp [h1]
theorem yV2 {m : Int32} {e n n' : Nat} : updV (yV m e n) 2 (.int (Int32.ofNat n')) = yV m e n' := by
  funext q
  unfold updV yV
  by_cases h1 : q = 2
  · subst h1; rfl
  · simp [h1]
/-- a list lies so in a heap -/
def yL (h : xH) (b e : Nat) (m : Int32) (n cap : Nat) (A : Nat → Value) : Prop := h.1 b = (4, 3, yV m e n) ∧ h.1 e = (24, cap, A) ∧ b ≠ e
/-- a heap with a list in it -/
def yZ (h : xH) (b e : Nat) (m : Int32) (n cap : Nat) (A : Nat → Value) : xH := (fun a => if a = b then (4, 3, yV m e n) else if a = e then (24, cap, A) else h.1 a, h.2)
theorem yZ_of {h : xH} {b e : Nat} {m : Int32} {n cap : Nat} {A : Nat → Value} (hL : yL h b e m n cap A) : h = yZ h b e m n cap A := by
  obtain ⟨h1, h2, h3⟩ := hL
  refine Prod.ext (funext fun a => ?_) rfl
  show h.1 a = if a = b then _ else if a = e then _ else h.1 a
  by_cases q1 : a = b
  · subst q1; rw [if_pos rfl]; exact h1
  · rw [if_neg q1]
    by_cases q2 : a = e
    · subst q2; rw [if_pos rfl]; exact h2
    · rw [if_neg q2]
theorem yZ_b {h : xH} {b e : Nat} {m : Int32} {n cap : Nat} {A : Nat → Value} : (yZ h b e m n cap A).1 b = (4, 3, yV m e n) := by
  show (if b = b then _ else _) = _
  rw [if_pos rfl]
theorem yZ_e {h : xH} {b e : Nat} {m : Int32} {n cap : Nat} {A : Nat → Value} (hn : b ≠ e) : (yZ h b e m n cap A).1 e = (24, cap, A) := by
  show (if e = b then _ else if e = e then _ else _) = _
  rw [if_neg (fun z => hn z.symm), if_pos rfl]
theorem yZ_o {h : xH} {b e a : Nat} {m : Int32} {n cap : Nat} {A : Nat → Value} (h1 : a ≠ b) (h2 : a ≠ e) : (yZ h b e m n cap A).1 a = h.1 a := by
  show (if a = b then _ else if a = e then _ else _) = _
  rw [if_neg h1, if_neg h2]
theorem yZ_L {h : xH} {b e : Nat} {m : Int32} {n cap : Nat} {A : Nat → Value} (hn : b ≠ e) : yL (yZ h b e m n cap A) b e m n cap A := ⟨yZ_b, yZ_e hn, hn⟩
theorem yZ_sb {h : xH} {b e : Nat} {m m' : Int32} {n n' cap : Nat} {A : Nat → Value} {x : xC} (hx : x = (4, 3, yV m' e n')) : (xset (yZ h b e m n cap A).1 b x, (yZ h b e m n cap A).2) = yZ h b e m' n' cap A := by
  subst hx
  refine Prod.ext (funext fun a => ?_) rfl
  show (if a = b then _ else if a = b then _ else _) = if a = b then _ else _
  by_cases q : a = b
  · rw [if_pos q, if_pos q]
  · rw [if_neg q, if_neg q, if_neg q]
theorem yZ_se {h : xH} {b e : Nat} {m : Int32} {n cap : Nat} {A A' : Nat → Value} {x : xC} (hn : b ≠ e) (hx : x = (24, cap, A')) : (xset (yZ h b e m n cap A).1 e x, (yZ h b e m n cap A).2) = yZ h b e m n cap A' := by
  subst hx
  refine Prod.ext (funext fun a => ?_) rfl
  show (if a = e then _ else if a = b then _ else if a = e then _ else _) = if a = b then _ else if a = e then _ else _
  by_cases q : a = e
  · subst q
    rw [if_pos rfl, if_neg (fun z => hn z.symm), if_pos rfl]
  · rw [if_neg q, if_neg q, if_neg q]
noncomputable def pY (eD : Nat) : Nat → List Value → xH → Option (Option Value × xH) := fun y as h =>
  if y = 389 then (match as with
    | [.ref b, .int n] => @ite _ (ygC h b n) (Classical.propDecidable _) (some (some (.ref h.2.1), yhC h b n)) none
    | _ => none)
  else if y = 7 then (match as with
    | [.ref a, .int k] => @ite _ (k = 1 ∧ (h.1 a).1 = 4 ∧ (h.1 a).2.2 1 = .ref eD ∧ (h.1 eD).1 = 24 ∧ (h.1 eD).2.1 = 0 ∧ a < h.2.1) (Classical.propDecidable _) (some (some (.ref h.2.1), yhG h a)) none
    | _ => none)
  else if y = 9 then (match as with
    | [.ref a] => if (h.1 a).1 = 4 then some (none, yhI h a eD) else none
    | _ => none)
  else none
theorem pY_none {eD y : Nat} (h1 : y ≠ 389) (h2 : y ≠ 7) (h3 : y ≠ 9) (as : List Value) (h : xH) : pY eD y as h = none := by
  unfold pY
  rw [if_neg h1, if_neg h2, if_neg h3]
theorem pY_ok {l : Launch} {G0 : Heap} {Y : State → Prop} {D : va_G} {dA : Nat → ClassId} {base eD mi : Nat} (hY : ∀ U, Y U → yY G0 base eD mi U) : ∀ d y as h r h', 4 ≤ d → pY eD y as h = some (r, h') → xMet l G0 Y D dA base (d + 1) y as h r h' := by
  have h1 : ∀ d y as h r h', 4 ≤ d → (fun y as h => if y = 389 then none else pY eD y as h) y as h = some (r, h') → True := fun _ _ _ _ _ _ _ _ => trivial
  have key0 : ∀ d y as h r h', 4 ≤ d → (fun (_ : Nat) (_ : List Value) (_ : xH) => (none : Option (Option Value × xH))) y as h = some (r, h') → xMet l G0 Y D dA base (d + 1) y as h r h' := fun _ _ _ _ _ _ _ h => by cases h
  intro d y as h r h' hd he
  unfold pY at he
  split at he
  next hy =>
    subst hy
    split at he
    next b n =>
      split at he
      next hg => cases he; exact y_389 (pF := fun _ _ _ => none) hY key0 hd hg
      next => cases he
    next => cases he
  next =>
    split at he
    next hy =>
      subst hy
      split at he
      next a k =>
        split at he
        next hg =>
          obtain ⟨rfl, g1, g2, g3, g4, g5⟩ := hg
          cases he
          exact y_7 (pF := fun _ _ _ => none) hY key0 g1 g2 ⟨g3, g4⟩ g5
        next => cases he
      next => cases he
    next =>
      split at he
      next hy =>
        subst hy
        split at he
        next a =>
          split at he
          next ht => cases he; exact y_9 hY hd ht
          next => cases he
        next => cases he
      next => cases he
section YM
variable {pF : Nat → List Value → xH → Option (Option Value × xH)} {d eD : Nat} {h : xH} {b e n cap : Nat} {m : Int32} {A : Nat → Value}
theorem y_size (hp : ∀ y as h, y ≠ 389 → y ≠ 7 → y ≠ 9 → pF y as h = none) (hL : yL h b e m n cap A) : xCo pF (d + 1) 14 [.ref b] h (some (.int (Int32.ofNat n))) h := by
  refine xCo_R ykk_14 ymo_14 yni_14 yxm_14 (Nat.le_of_ble_eq_true rfl) (hp _ _ _ (by decide) (by decide) (by decide)) ?_
  refine eE_aload_n yl14_0 (x := b) rfl ?_
  refine yE_getf yl14_1 yrf_3_48 (by rw [hL.1]) (v := .int (Int32.ofNat n)) (by rw [hL.1]; rfl) ?_
  exact eE_end yl14_4 rfl rfl rfl
theorem y_emp (hp : ∀ y as h, y ≠ 389 → y ≠ 7 → y ≠ 9 → pF y as h = none) (hL : yL h b e m n cap A) (hn : n ≤ 1000000) : xCo pF (d + 1) 10 [.ref b] h (some (.int (if n = 0 then 1 else 0))) h := by
  refine xCo_R ykk_10 ymo_10 yni_10 yxm_10 (Nat.le_of_ble_eq_true rfl) (hp _ _ _ (by decide) (by decide) (by decide)) ?_
  refine eE_aload_n yl10_0 (x := b) rfl ?_
  refine yE_getf yl10_1 yrf_3_48 (by rw [hL.1]) (v := .int (Int32.ofNat n)) (by rw [hL.1]; rfl) ?_
  have h0 : Int32.ofNat n = 0 ↔ n = 0 := by
    constructor
    · intro z
      have := (y_ofn hn).1
      rw [z] at this
      exact this.symm
    · rintro rfl; rfl
  refine eE_if (t := 11) yl10_4 (by decide) (fun q => ?_) (fun q => ?_)
  · have : ¬ n = 0 := fun z => by rw [h0.mpr z] at q; cases q
    rw [if_neg this]
    refine eE_iconst (v := 0) yl10_11 (by decide) ?_
    exact eE_end yl10_12 rfl rfl rfl
  · have : n = 0 := by
      by_cases z : n = 0
      · exact z
      · exact absurd (by simp [xc0, h0, z]) q
    rw [if_pos this]
    refine eE_iconst (v := 1) yl10_7 (by decide) ?_
    refine eE_goto (t := 12) yl10_8 (by decide) ?_
    exact eE_end yl10_12 rfl rfl rfl
/-- the checks of an index -/
theorem y_chk (hp : ∀ y as h, y ≠ 389 → y ≠ 7 → y ≠ 9 → pF y as h = none) {j k : Int32} (hj : ¬ j < 0) (hk : j < k) : xCo pF (d + 2) 403 [.int j, .int k] h (some (.int j)) h := by
  refine xCo_R ykk_403 ymo_403 yni_403 yxm_403 (Nat.le_of_ble_eq_true rfl) (hp _ _ _ (by decide) (by decide) (by decide)) ?_
  refine eE_iload_n yl403_0 (x := j) rfl ?_
  refine eE_iload_n yl403_1 (x := k) rfl ?_
  refine eE_null yl403_2 ?_
  refine eE_stat (as := [.int j, .int k, .null]) (r := some (.int j)) (h' := h) yl403_3 ymr_23_105 yna_406 rfl rfl (Nat.le_of_ble_eq_true rfl) ymm_406 yws_406 ?_ ?_
  · refine xCo_R ykk_406 ymo_406 yni_406 yxm_406 (Nat.le_of_ble_eq_true rfl) (hp _ _ _ (by decide) (by decide) (by decide)) ?_
    refine eE_iload_n yl406_0 (x := j) rfl ?_
    refine eE_if (t := 9) yl406_1 (by decide) (fun q => absurd (of_decide_eq_true q) hj) (fun _ => ?_)
    refine eE_iload_n yl406_4 (x := j) rfl ?_
    refine eE_iload_n yl406_5 (x := k) rfl ?_
    refine eE_icmp (t := 16) yl406_6 (by decide) (fun _ => ?_) (fun q => absurd (decide_eq_true hk) q)
    refine eE_iload_n yl406_16 (x := j) rfl ?_
    exact eE_end yl406_17 rfl rfl rfl
  exact eE_end yl403_6 rfl rfl rfl
theorem y_get (hp : ∀ y as h, y ≠ 389 → y ≠ 7 → y ≠ 9 → pF y as h = none) (hL : yL h b e m n cap A) (hn : n ≤ cap) (hcap : cap ≤ 1000000) {j : Int32} (hj : ¬ j < 0) (hk : j.toNatClampNeg < n) {v : Nat} (hv : A j.toNatClampNeg = .ref v) : xCo pF (d + 3) 6 [.ref b, .int j] h (some (.ref v)) h := by
  refine xCo_R ykk_6 ymo_6 yni_6 yxm_6 (Nat.le_of_ble_eq_true rfl) (hp _ _ _ (by decide) (by decide) (by decide)) ?_
  refine eE_iload_n yl6_0 (x := j) rfl ?_
  refine eE_aload_n yl6_1 (x := b) rfl ?_
  refine yE_getf yl6_2 yrf_3_48 (by rw [hL.1]) (v := .int (Int32.ofNat n)) (by rw [hL.1]; rfl) ?_
  have hlt : j < Int32.ofNat n := by
    obtain ⟨q1, q2⟩ := y_ofn (n := n) (by omega)
    rw [Int32.lt_iff_toInt_lt, x_ge0 hj, x_ge0 q2, q1]
    omega
  refine eE_stat (as := [.int j, .int (Int32.ofNat n)]) (r := some (.int j)) (h' := h) yl6_5 ymr_3_118 yna_403 rfl rfl (Nat.le_of_ble_eq_true rfl) ymm_403 yws_403 (y_chk (d := d) hp hj hlt) ?_
  refine eE_pop yl6_8 rfl ?_
  refine eE_aload_n yl6_9 (x := b) rfl ?_
  refine eE_iload_n yl6_10 (x := j) rfl ?_
  refine eE_virt (as := [.int j]) (r := some (.ref v)) (h' := h) yl6_11 ymr_3_123 yna_4 rfl rfl (Nat.le_of_ble_eq_true rfl) ywv_4 ?_ ?_ ?_
  · rw [hL.1]; exact ⟨ywc_4, Nat.le_of_ble_eq_true rfl, Nat.le_of_ble_eq_true rfl⟩
  · refine xCo_R ykk_4 ymo_4 yni_4 yxm_4 (Nat.le_of_ble_eq_true rfl) (hp _ _ _ (by decide) (by decide) (by decide)) ?_
    refine eE_aload_n yl4_0 (x := b) rfl ?_
    refine yE_getf yl4_1 yrf_3_9 (by rw [hL.1]) (v := .ref e) (by rw [hL.1]; rfl) ?_
    refine eE_iload_n yl4_4 (x := j) rfl ?_
    refine yE_aald yl4_5 (by rw [hL.2.1]) (by rw [hL.2.1]; show ¬ (j < 0 ∨ cap ≤ _); exact fun z => z.elim hj (fun z => by omega)) (v := .ref v) (by rw [hL.2.1]; exact hv) ?_
    exact eE_end yl4_6 rfl rfl rfl
  exact eE_end yl6_14 rfl rfl rfl
/-- the count of changes, one more -/
theorem y_inc {k : xK} {nL pc p1 p2 p3 p4 p5 : Nat} {ret : Option FieldType} {rr : Option Value} {hh : xH} {lv : xL} {st : List Value} (h1 : xAt k pc .dup p1) (h2 : xAt k p1 (.getfield 63) p2) (h3 : xAt k p2 (.iconst 1) p3) (h4 : xAt k p3 .iadd p4) (h5 : xAt k p4 (.putfield 63) p5) (kk : xR pF d k 3 nL false ret rr hh (p5, lv, st, yZ h b e (m + 1) n cap A)) :
    xR pF d k 3 nL false ret rr hh (pc, lv, .ref b :: st, yZ h b e m n cap A) := by
  refine eE_dup h1 rfl ?_
  refine yE_modg (v := .int m) h2 rfl (by rw [yZ_b]) (by rw [yZ_b]; rfl) ?_
  refine eE_iconst (v := 1) h3 (by decide) ?_
  refine eE_iadd h4 ?_
  refine yE_modp h5 (Or.inl ⟨rfl, rfl⟩) (by rw [yZ_b]) rfl ?_
  rw [yZ_sb (m' := m + 1) (n' := n) (by rw [yZ_b]; exact Prod.ext rfl (Prod.ext rfl yV0))]
  exact kk
theorem y_lt {x y : Nat} (hx : x ≤ 1000000) (hy : y ≤ 1000000) : Int32.ofNat x < Int32.ofNat y ↔ x < y := by
  obtain ⟨a1, a2⟩ := y_ofn hx
  obtain ⟨b1, b2⟩ := y_ofn hy
  rw [Int32.lt_iff_toInt_lt, x_ge0 a2, x_ge0 b2, a1, b1]
  omega
theorem y_le {x y : Nat} (hx : x ≤ 1000000) (hy : y ≤ 1000000) : Int32.ofNat x ≤ Int32.ofNat y ↔ x ≤ y := by
  obtain ⟨a1, a2⟩ := y_ofn hx
  obtain ⟨b1, b2⟩ := y_ofn hy
  rw [Int32.le_iff_toInt_le, x_ge0 a2, x_ge0 b2, a1, b1]
  omega
theorem y_add {x y : Nat} : Int32.ofNat x + Int32.ofNat y = Int32.ofNat (x + y) := (Int32.ofNat_add x y).symm
theorem y_one : (1 : Int32) = Int32.ofNat 1 := rfl
theorem y_sub {x y : Nat} (h : y ≤ x) : Int32.ofNat x - Int32.ofNat y = Int32.ofNat (x - y) := by
  have : Int32.ofNat x = Int32.ofNat (x - y) + Int32.ofNat y := by rw [y_add, Nat.sub_add_cancel h]
  rw [this, Int32.add_sub_cancel]
theorem y_clear (hp : ∀ y as h, y ≠ 389 → y ≠ 7 → y ≠ 9 → pF y as h = none) (hn : b ≠ e) (hle : n ≤ cap) (hcap : cap ≤ 1000000) : xCo pF (d + 1) 3 [.ref b] (yZ h b e m n cap A) none (yZ h b e (m + 1) 0 cap (fun j => if j < n then .null else A j)) := by
  refine xCo_R ykk_3 ymo_3 yni_3 yxm_3 (Nat.le_of_ble_eq_true rfl) (hp _ _ _ (by decide) (by decide) (by decide)) ?_
  refine eE_aload_n yl3_0 (x := b) rfl ?_
  refine y_inc yl3_1 yl3_2 yl3_5 yl3_6 yl3_7 ?_
  refine eE_aload_n yl3_10 (x := b) rfl ?_
  refine yE_getf yl3_11 yrf_3_9 (by rw [yZ_b]) (v := .ref e) (by rw [yZ_b]; rfl) ?_
  refine eE_stA (j := 1) yl3_14 (Or.inr ⟨1, rfl, rfl⟩) (by decide) (fun lv1 q1 k1 => ?_)
  have q0 : xg lv1 0 = some (.ref b) := k1 0 _ (by decide) (fun _ => rfl) rfl
  refine eE_aload_n yl3_15 q0 ?_
  refine yE_getf yl3_16 yrf_3_48 (by rw [yZ_b]) (v := .int (Int32.ofNat n)) (by rw [yZ_b]; rfl) ?_
  refine eE_stI (j := 2) yl3_19 (Or.inr ⟨2, rfl, rfl⟩) (by decide) (fun lv2 r2 k2 => ?_)
  have r0 : xg lv2 0 = some (.ref b) := k2 0 _ (by decide) (fun _ => rfl) q0
  have r1 : xg lv2 1 = some (.ref e) := k2 1 _ (by decide) (fun _ => rfl) q1
  refine eE_aload_n yl3_20 r0 ?_
  refine eE_iconst (v := 0) yl3_21 (by decide) ?_
  refine eE_dup_x1 yl3_22 rfl rfl ?_
  refine yE_putS yl3_23 rfl (by rw [yZ_b]) rfl ?_
  rw [yZ_sb (m' := m + 1) (n' := 0) (by rw [yZ_b]; exact Prod.ext rfl (Prod.ext rfl yV2))]
  refine eE_stI (j := 3) yl3_26 (Or.inr ⟨3, rfl, rfl⟩) (by decide) (fun lv3 s3 k3 => ?_)
  have s1 : xg lv3 1 = some (.ref e) := k3 1 _ (by decide) (fun _ => rfl) r1
  have s2 : xg lv3 2 = some (.int (Int32.ofNat n)) := k3 2 _ (by decide) (fun _ => rfl) r2
  -- the loop
  have loop : ∀ (k i : Nat) (lv : xL), i + k = n → xg lv 1 = some (.ref e) → xg lv 2 = some (.int (Int32.ofNat n)) → xg lv 3 = some (.int (Int32.ofNat i)) → xR pF d kT3 3 4 false none none (yZ h b e (m + 1) 0 cap (fun j => if j < n then .null else A j)) (27, lv, [], yZ h b e (m + 1) 0 cap (fun j => if j < i then .null else A j)) := by
    intro k
    induction k with
    | zero =>
      intro i lv hi g1 g2 g3
      obtain rfl : i = n := by omega
      refine eE_iload_n yl3_27 g3 ?_
      refine eE_iload_n yl3_28 g2 ?_
      refine eE_icmp (t := 42) yl3_29 (by decide) (fun _ => ?_) (fun q => absurd (decide_eq_true (Int32.le_refl _)) q)
      exact eE_end yl3_42 rfl rfl rfl
    | succ k ih =>
      intro i lv hi g1 g2 g3
      refine eE_iload_n yl3_27 g3 ?_
      refine eE_iload_n yl3_28 g2 ?_
      refine eE_icmp (t := 42) yl3_29 (by decide) (fun q => ?_) (fun _ => ?_)
      · exfalso
        have := (y_le (x := n) (y := i) (by omega) (by omega)).mp (of_decide_eq_true q)
        omega
      refine eE_aload_n yl3_32 g1 ?_
      refine eE_iload_n yl3_33 g3 ?_
      refine eE_null yl3_34 ?_
      obtain ⟨i1, i2⟩ := y_ofn (n := i) (by omega)
      refine yE_aastN yl3_35 (by rw [yZ_e hn]) (by rw [yZ_e hn]; show ¬ (_ ∨ cap ≤ _); rw [i1]; exact fun z => z.elim i2 (fun z => by omega)) rfl ?_
      rw [yZ_se (A' := fun j => if j < i + 1 then .null else A j) hn (by
        rw [yZ_e hn]
        refine Prod.ext rfl (Prod.ext rfl ?_)
        funext j
        show updV _ _ _ j = _
        rw [i1]
        unfold updV
        by_cases qj : j = i
        · subst qj; simp
        · by_cases q2 : j < i
          · simp [qj, q2, Nat.lt_succ_of_lt q2]
          · have : ¬ j < i + 1 := by omega
            simp [qj, q2, this])]
      refine eE_inc (j := 3) (v := Int32.ofNat (i + 1)) yl3_36 g3 (by rw [show Int32.ofInt 1 = Int32.ofNat 1 from rfl, y_add]) (by decide) (fun lv' t3 kt => ?_)
      refine eE_goto (t := 27) yl3_39 (by decide) ?_
      exact ih (i + 1) lv' (by omega) (kt 1 _ (by decide) (fun _ => rfl) g1) (kt 2 _ (by decide) (fun _ => rfl) g2) t3
  have := loop n 0 lv3 (by omega) s1 s2 s3
  refine cast ?_ this
  congr 1
end YM
