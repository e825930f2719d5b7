/-! printed by wip/whole/gen_cls.py -/
/-! k_Lead_isReached_7_5 (56), depth 2 -/
def k_Lead_isReached_7_5_b32 (F : Nat) (K5 : CS → Nat → Int32 → Int32 → Int32 → Int32 → Option (Int32)) (σ : CS) (l0 : Nat) (l1 : Int32) (l2 : Int32) (l3 : Int32) (l4 : Int32) : Option (Int32) :=
  K5 σ l0 l1 l2 l3 (l4 + (1 : Int32))
set_option maxRecDepth 4000 in
theorem k_Lead_isReached_7_5_b32_ok {E : CE} {pF : Nat → List Value → xH → Option (Option Value × xH)} (hp0 : xNPc pF) (hL : lcAll E pF) (hF : lcF pF) {d : Nat} {F : Nat} {K5 : CS → Nat → Int32 → Int32 → Int32 → Int32 → Option (Int32)} (hK5 : ∀ (g : CG) (lv : xL) (σ : CS) (l0 : Nat) (l1 : Int32) (l2 : Int32) (l3 : Int32) (l4 : Int32), (cob σ 7 l0) → (xg lv 0 = some (.ref (caa E 7 l0 5))) → (xg lv 1 = some (.int l1)) → (xg lv 2 = some (.int l2)) → (xg lv 3 = some (.int l3)) → (xg lv 4 = some (.int l4)) → ∀ res, K5 σ l0 l1 l2 l3 l4 = some res → cR E cQ1 pF (d + 1) kT56 7 5 (some FieldType.boolean) (some (.int res)) σ g σ (5, lv, [])) : ∀ (g : CG) (lv : xL) (σ : CS) (l0 : Nat) (l1 : Int32) (l2 : Int32) (l3 : Int32) (l4 : Int32), (cob σ 7 l0) → (xg lv 0 = some (.ref (caa E 7 l0 5))) → (xg lv 1 = some (.int l1)) → (xg lv 2 = some (.int l2)) → (xg lv 3 = some (.int l3)) → (xg lv 4 = some (.int l4)) → ∀ res, k_Lead_isReached_7_5_b32 F K5 σ l0 l1 l2 l3 l4 = some res → cR E cQ1 pF (d + 1) kT56 7 5 (some FieldType.boolean) (some (.int res)) σ g σ (32, lv, []) := by
  intro g lv σ l0 l1 l2 l3 l4 bl0 g0 g1 g2 g3 g4 res h
  unfold k_Lead_isReached_7_5_b32 at h
  refine cR_inc (j := 4) (v := l4 + (1 : Int32)) lk56_32 g4 rfl (by decide) (fun vq1 gq2 kq3 => ?_)
  have gq4 := kq3 0 _ (by decide) (fun e => absurd e (by decide)) g0
  have gq5 := kq3 1 _ (by decide) (fun e => absurd e (by decide)) g1
  have gq6 := kq3 2 _ (by decide) (fun e => absurd e (by decide)) g2
  have gq7 := kq3 3 _ (by decide) (fun _ => rfl) g3
  refine cR_lift (fun _ _ kk => eE_goto (t := 5) lk56_35 (by decide) kk) ?_
  exact hK5 g vq1 σ l0 l1 l2 l3 (l4 + (1 : Int32)) bl0 gq4 gq5 gq6 gq7 gq2 _ h
def k_Lead_isReached_7_5_b53 (F : Nat)  (σ : CS) (s0 : Int32) : Option (Int32) :=
  if s0 = 0 ∨ s0 = 1 then some s0 else none
set_option maxRecDepth 4000 in
theorem k_Lead_isReached_7_5_b53_ok {E : CE} {pF : Nat → List Value → xH → Option (Option Value × xH)} (hp0 : xNPc pF) (hL : lcAll E pF) (hF : lcF pF) {d : Nat} {F : Nat}   : ∀ (g : CG) (lv : xL) (σ : CS) (s0 : Int32), ∀ res, k_Lead_isReached_7_5_b53 F  σ s0 = some res → cR E cQ1 pF (d + 1) kT56 7 5 (some FieldType.boolean) (some (.int res)) σ g σ (53, lv, [.int s0]) := by
  intro g lv σ s0 res h
  unfold k_Lead_isReached_7_5_b53 at h
  by_cases z8 : s0 = 0 ∨ s0 = 1
  · rw [if_pos z8] at h; cases h
    exact cR_end lk56_53 rfl rfl (by first | (simp only [xfin, if_true, if_pos z8]; done) | simp [xfin, z8])
  · rw [if_neg z8] at h; cases h
def k_Lead_isReached_7_5_b5 (F : Nat)  : Nat → CS → Nat → Int32 → Int32 → Int32 → Int32 → Option (Int32)
  | 0, _, _, _, _, _, _ => none
  | n + 1, σ, l0, l1, l2, l3, l4 =>
    let KK := k_Lead_isReached_7_5_b5 F  n
    if xc2 .ge l4 ((7 : Int32)) = true then (
      (k_Integer_bitCount σ l1).bind fun p10 =>
      if xc2 .le (((2 : Int32)) * l3) p10 = true then (
        k_Lead_isReached_7_5_b53 F  σ ((0 : Int32))
      ) else (
        k_Lead_isReached_7_5_b53 F  σ ((1 : Int32))
      )
    ) else (
      if xc0 .eq ((l1 >>> (l4 &&& 31)) &&& ((1 : Int32))) = true then (
        k_Lead_isReached_7_5_b32 F KK σ l0 l1 l2 l3 l4
      ) else (
        (crd σ 7 l0 5 l4).bind fun x15 =>
        if xc2 .lt x15 l2 = true then (
          k_Lead_isReached_7_5_b32 F KK σ l0 l1 l2 l3 l4
        ) else (
          k_Lead_isReached_7_5_b32 F KK σ l0 l1 l2 (l3 + (1 : Int32)) l4
        )
      )
    )
set_option maxRecDepth 4000 in
theorem k_Lead_isReached_7_5_b5_ok {E : CE} {pF : Nat → List Value → xH → Option (Option Value × xH)} (hp0 : xNPc pF) (hL : lcAll E pF) (hF : lcF pF) {d : Nat} {F : Nat}   : ∀ (n : Nat) (g : CG) (lv : xL) (σ : CS) (l0 : Nat) (l1 : Int32) (l2 : Int32) (l3 : Int32) (l4 : Int32), (cob σ 7 l0) → (xg lv 0 = some (.ref (caa E 7 l0 5))) → (xg lv 1 = some (.int l1)) → (xg lv 2 = some (.int l2)) → (xg lv 3 = some (.int l3)) → (xg lv 4 = some (.int l4)) → ∀ res, k_Lead_isReached_7_5_b5 F  n σ l0 l1 l2 l3 l4 = some res → cR E cQ1 pF (d + 1) kT56 7 5 (some FieldType.boolean) (some (.int res)) σ g σ (5, lv, []) := by
  intro n
  induction n with
  | zero => intro g lv σ l0 l1 l2 l3 l4 bl0 g0 g1 g2 g3 g4 res h; simp [k_Lead_isReached_7_5_b5] at h
  | succ n hKK =>
    intro g lv σ l0 l1 l2 l3 l4 bl0 g0 g1 g2 g3 g4 res h
    unfold k_Lead_isReached_7_5_b5 at h
    dsimp only at h
    refine cR_lift (fun _ _ kk => eE_iload lk56_5 g4 kk) ?_
    refine cR_lift (fun _ _ kk => eE_bipush (v := 7) lk56_7 (by decide) kk) ?_
    refine cR_icmp (t := 38) lk56_9 (by decide) (fun c9 => ?_) (fun c9 => ?_)
    · rw [if_pos c9] at h
      refine cR_lift (fun _ _ kk => eE_iconst (v := 2) lk56_38 (by decide) kk) ?_
      refine cR_lift (fun _ _ kk => eE_iload_n lk56_39 g3 kk) ?_
      refine cR_lift (fun _ _ kk => eE_imul lk56_40 kk) ?_
      refine cR_lift (fun _ _ kk => eE_iload_n lk56_41 g1 kk) ?_
      obtain ⟨p10, h11, h⟩ := Option.bind_eq_some_iff.mp h
      refine cR_stat (as := [.int l1]) lk56_42 mr_7_68 na_398 rfl rfl (by first | exact Nat.le_of_ble_eq_true rfl | (simp [xcat, cvo_cat, cat_i, cat_j, cat_r]; done)) mm_398 ws_398 (k_Integer_bitCount_ok hp0 hL hF (d := d + 0)  h11) (fun m12 => ?_)
      refine cR_icmp (t := 52) lk56_45 (by decide) (fun c13 => ?_) (fun c13 => ?_)
      · rw [if_pos c13] at h
        refine cR_lift (fun _ _ kk => eE_iconst (v := 0) lk56_52 (by decide) kk) ?_
        exact k_Lead_isReached_7_5_b53_ok hp0 hL hF  g lv σ ((0 : Int32))  _ h
      · rw [if_neg c13] at h
        refine cR_lift (fun _ _ kk => eE_iconst (v := 1) lk56_48 (by decide) kk) ?_
        refine cR_lift (fun _ _ kk => eE_goto (t := 53) lk56_49 (by decide) kk) ?_
        exact k_Lead_isReached_7_5_b53_ok hp0 hL hF  g lv σ ((1 : Int32))  _ h
    · rw [if_neg c9] at h
      refine cR_lift (fun _ _ kk => eE_iload_n lk56_12 g1 kk) ?_
      refine cR_lift (fun _ _ kk => eE_iload lk56_13 g4 kk) ?_
      refine cR_lift (fun _ _ kk => eE_ishr lk56_15 kk) ?_
      refine cR_lift (fun _ _ kk => eE_iconst (v := 1) lk56_16 (by decide) kk) ?_
      refine cR_lift (fun _ _ kk => eE_iand lk56_17 kk) ?_
      refine cR_if (t := 32) lk56_18 (by decide) (fun c14 => ?_) (fun c14 => ?_)
      · rw [if_pos c14] at h
        exact k_Lead_isReached_7_5_b32_ok hp0 hL hF hKK g lv σ l0 l1 l2 l3 l4 bl0 g0 g1 g2 g3 g4 _ h
      · rw [if_neg c14] at h
        refine cR_lift (fun _ _ kk => eE_aload_n lk56_21 g0 kk) ?_
        refine cR_lift (fun _ _ kk => eE_iload lk56_22 g4 kk) ?_
        obtain ⟨x15, h16, h⟩ := Option.bind_eq_some_iff.mp h
        refine cR_iald (cl := 7) (i := l0) (f := 5) lk56_24 (by decide) rfl bl0 h16 ?_
        refine cR_lift (fun _ _ kk => eE_iload_n lk56_25 g2 kk) ?_
        refine cR_icmp (t := 32) lk56_26 (by decide) (fun c17 => ?_) (fun c17 => ?_)
        · rw [if_pos c17] at h
          exact k_Lead_isReached_7_5_b32_ok hp0 hL hF hKK g lv σ l0 l1 l2 l3 l4 bl0 g0 g1 g2 g3 g4 _ h
        · rw [if_neg c17] at h
          refine cR_inc (j := 3) (v := l3 + (1 : Int32)) lk56_29 g3 rfl (by decide) (fun vq18 gq19 kq20 => ?_)
          have gq21 := kq20 0 _ (by decide) (fun e => absurd e (by decide)) g0
          have gq22 := kq20 1 _ (by decide) (fun e => absurd e (by decide)) g1
          have gq23 := kq20 2 _ (by decide) (fun _ => rfl) g2
          have gq24 := kq20 4 _ (by decide) (fun e => absurd e (by decide)) g4
          exact k_Lead_isReached_7_5_b32_ok hp0 hL hF hKK g vq18 σ l0 l1 l2 (l3 + (1 : Int32)) l4 bl0 gq21 gq22 gq23 gq19 gq24 _ h
def k_Lead_isReached_7_5_b0 (F : Nat)  (σ : CS) (l0 : Nat) (l1 : Int32) (l2 : Int32) : Option (Int32) :=
  k_Lead_isReached_7_5_b5 F  F σ l0 l1 l2 ((0 : Int32)) ((0 : Int32))
set_option maxRecDepth 4000 in
theorem k_Lead_isReached_7_5_b0_ok {E : CE} {pF : Nat → List Value → xH → Option (Option Value × xH)} (hp0 : xNPc pF) (hL : lcAll E pF) (hF : lcF pF) {d : Nat} {F : Nat}   : ∀ (g : CG) (lv : xL) (σ : CS) (l0 : Nat) (l1 : Int32) (l2 : Int32), (cob σ 7 l0) → (xg lv 0 = some (.ref (caa E 7 l0 5))) → (xg lv 1 = some (.int l1)) → (xg lv 2 = some (.int l2)) → ∀ res, k_Lead_isReached_7_5_b0 F  σ l0 l1 l2 = some res → cR E cQ1 pF (d + 1) kT56 7 5 (some FieldType.boolean) (some (.int res)) σ g σ (0, lv, []) := by
  intro g lv σ l0 l1 l2 bl0 g0 g1 g2 res h
  unfold k_Lead_isReached_7_5_b0 at h
  refine cR_lift (fun _ _ kk => eE_iconst (v := 0) lk56_0 (by decide) kk) ?_
  refine cR_stI (j := 3) lk56_1 (Or.inr ⟨_, rfl, rfl⟩) (by decide) (fun vq25 gq26 kq27 => ?_)
  have gq28 := kq27 0 _ (by decide) (fun e => absurd e (by decide)) g0
  have gq29 := kq27 1 _ (by decide) (fun e => absurd e (by decide)) g1
  have gq30 := kq27 2 _ (by decide) (fun _ => rfl) g2
  refine cR_lift (fun _ _ kk => eE_iconst (v := 0) lk56_2 (by decide) kk) ?_
  refine cR_stI (j := 4) lk56_3 (Or.inl rfl) (by decide) (fun vq31 gq32 kq33 => ?_)
  have gq34 := kq33 0 _ (by decide) (fun e => absurd e (by decide)) gq28
  have gq35 := kq33 1 _ (by decide) (fun e => absurd e (by decide)) gq29
  have gq36 := kq33 2 _ (by decide) (fun e => absurd e (by decide)) gq30
  have gq37 := kq33 3 _ (by decide) (fun _ => rfl) gq26
  exact k_Lead_isReached_7_5_b5_ok hp0 hL hF  F g vq31 σ l0 l1 l2 ((0 : Int32)) ((0 : Int32)) bl0 gq34 gq35 gq36 gq37 gq32 _ h
def k_Lead_isReached_7_5 (F : Nat) (σ : CS) (l0 : Nat) (l1 : Int32) (l2 : Int32) : Option (Int32) := k_Lead_isReached_7_5_b0 F σ l0 l1 l2
theorem k_Lead_isReached_7_5_ok {E : CE} {pF : Nat → List Value → xH → Option (Option Value × xH)} (hp0 : xNPc pF) (hL : lcAll E pF) (hF : lcF pF) {d : Nat} {g : CG} {σ : CS} {F : Nat} {l0 : Nat} {l1 : Int32} {l2 : Int32} {res : Int32} (bl0 : cob σ 7 l0) (h : k_Lead_isReached_7_5 F σ l0 l1 l2 = some res) : cCo E cQ1 pF (d + 2) 56 [.ref (caa E 7 l0 5), .int l1, .int l2] (some (.int res)) σ g σ :=
  cCo_R kk_56 mo_56 ni_56 xm_56 (Nat.le_of_ble_eq_true rfl) (hp0 56 (by decide) _) (k_Lead_isReached_7_5_b0_ok hp0 hL hF g _ σ l0 l1 l2 bl0 rfl rfl rfl _ h)
/-! k_Lead_mostOf_7_5 (58), depth 3 -/
def k_Lead_mostOf_7_5_b41 (F : Nat) (K5 : CS → Nat → Int32 → Int32 → Int32 → Option (Int32)) (σ : CS) (l0 : Nat) (l1 : Int32) (l2 : Int32) (l3 : Int32) : Option (Int32) :=
  K5 σ l0 l1 l2 (l3 + (1 : Int32))
set_option maxRecDepth 4000 in
theorem k_Lead_mostOf_7_5_b41_ok {E : CE} {pF : Nat → List Value → xH → Option (Option Value × xH)} (hp0 : xNPc pF) (hL : lcAll E pF) (hF : lcF pF) {d : Nat} {F : Nat} {K5 : CS → Nat → Int32 → Int32 → Int32 → Option (Int32)} (hK5 : ∀ (g : CG) (lv : xL) (σ : CS) (l0 : Nat) (l1 : Int32) (l2 : Int32) (l3 : Int32), (cob σ 7 l0) → (xg lv 0 = some (.ref (caa E 7 l0 5))) → (xg lv 1 = some (.int l1)) → (xg lv 2 = some (.int l2)) → (xg lv 3 = some (.int l3)) → ∀ res, K5 σ l0 l1 l2 l3 = some res → cR E cQ1 pF (d + 2) kT58 7 4 (some FieldType.int) (some (.int res)) σ g σ (5, lv, [])) : ∀ (g : CG) (lv : xL) (σ : CS) (l0 : Nat) (l1 : Int32) (l2 : Int32) (l3 : Int32), (cob σ 7 l0) → (xg lv 0 = some (.ref (caa E 7 l0 5))) → (xg lv 1 = some (.int l1)) → (xg lv 2 = some (.int l2)) → (xg lv 3 = some (.int l3)) → ∀ res, k_Lead_mostOf_7_5_b41 F K5 σ l0 l1 l2 l3 = some res → cR E cQ1 pF (d + 2) kT58 7 4 (some FieldType.int) (some (.int res)) σ g σ (41, lv, []) := by
  intro g lv σ l0 l1 l2 l3 bl0 g0 g1 g2 g3 res h
  unfold k_Lead_mostOf_7_5_b41 at h
  refine cR_inc (j := 3) (v := l3 + (1 : Int32)) lk58_41 g3 rfl (by decide) (fun vq1 gq2 kq3 => ?_)
  have gq4 := kq3 0 _ (by decide) (fun e => absurd e (by decide)) g0
  have gq5 := kq3 1 _ (by decide) (fun e => absurd e (by decide)) g1
  have gq6 := kq3 2 _ (by decide) (fun _ => rfl) g2
  refine cR_lift (fun _ _ kk => eE_goto (t := 5) lk58_44 (by decide) kk) ?_
  exact hK5 g vq1 σ l0 l1 l2 (l3 + (1 : Int32)) bl0 gq4 gq5 gq6 gq2 _ h
def k_Lead_mostOf_7_5_b5 (F : Nat)  : Nat → CS → Nat → Int32 → Int32 → Int32 → Option (Int32)
  | 0, _, _, _, _, _ => none
  | n + 1, σ, l0, l1, l2, l3 =>
    let KK := k_Lead_mostOf_7_5_b5 F  n
    if xc2 .ge l3 ((7 : Int32)) = true then (
      some l2
    ) else (
      if xc0 .eq ((l1 >>> (l3 &&& 31)) &&& ((1 : Int32))) = true then (
        k_Lead_mostOf_7_5_b41 F KK σ l0 l1 l2 l3
      ) else (
        (crd σ 7 l0 5 l3).bind fun x9 =>
        if xc2 .le x9 l2 = true then (
          k_Lead_mostOf_7_5_b41 F KK σ l0 l1 l2 l3
        ) else (
          (crd σ 7 l0 5 l3).bind fun x12 =>
          (k_Lead_isReached_7_5 F σ l0 l1 x12).bind fun p14 =>
          if xc0 .eq p14 = true then (
            k_Lead_mostOf_7_5_b41 F KK σ l0 l1 l2 l3
          ) else (
            (crd σ 7 l0 5 l3).bind fun x18 =>
            k_Lead_mostOf_7_5_b41 F KK σ l0 l1 x18 l3
          )
        )
      )
    )
set_option maxRecDepth 4000 in
theorem k_Lead_mostOf_7_5_b5_ok {E : CE} {pF : Nat → List Value → xH → Option (Option Value × xH)} (hp0 : xNPc pF) (hL : lcAll E pF) (hF : lcF pF) {d : Nat} {F : Nat}   : ∀ (n : Nat) (g : CG) (lv : xL) (σ : CS) (l0 : Nat) (l1 : Int32) (l2 : Int32) (l3 : Int32), (cob σ 7 l0) → (xg lv 0 = some (.ref (caa E 7 l0 5))) → (xg lv 1 = some (.int l1)) → (xg lv 2 = some (.int l2)) → (xg lv 3 = some (.int l3)) → ∀ res, k_Lead_mostOf_7_5_b5 F  n σ l0 l1 l2 l3 = some res → cR E cQ1 pF (d + 2) kT58 7 4 (some FieldType.int) (some (.int res)) σ g σ (5, lv, []) := by
  intro n
  induction n with
  | zero => intro g lv σ l0 l1 l2 l3 bl0 g0 g1 g2 g3 res h; simp [k_Lead_mostOf_7_5_b5] at h
  | succ n hKK =>
    intro g lv σ l0 l1 l2 l3 bl0 g0 g1 g2 g3 res h
    unfold k_Lead_mostOf_7_5_b5 at h
    dsimp only at h
    refine cR_lift (fun _ _ kk => eE_iload_n lk58_5 g3 kk) ?_
    refine cR_lift (fun _ _ kk => eE_bipush (v := 7) lk58_6 (by decide) kk) ?_
    refine cR_icmp (t := 47) lk58_8 (by decide) (fun c7 => ?_) (fun c7 => ?_)
    · rw [if_pos c7] at h
      refine cR_lift (fun _ _ kk => eE_iload_n lk58_47 g2 kk) ?_
      cases h
      exact cR_end lk58_48 rfl rfl rfl
    · rw [if_neg c7] at h
      refine cR_lift (fun _ _ kk => eE_iload_n lk58_11 g1 kk) ?_
      refine cR_lift (fun _ _ kk => eE_iload_n lk58_12 g3 kk) ?_
      refine cR_lift (fun _ _ kk => eE_ishr lk58_13 kk) ?_
      refine cR_lift (fun _ _ kk => eE_iconst (v := 1) lk58_14 (by decide) kk) ?_
      refine cR_lift (fun _ _ kk => eE_iand lk58_15 kk) ?_
      refine cR_if (t := 41) lk58_16 (by decide) (fun c8 => ?_) (fun c8 => ?_)
      · rw [if_pos c8] at h
        exact k_Lead_mostOf_7_5_b41_ok hp0 hL hF hKK g lv σ l0 l1 l2 l3 bl0 g0 g1 g2 g3 _ h
      · rw [if_neg c8] at h
        refine cR_lift (fun _ _ kk => eE_aload_n lk58_19 g0 kk) ?_
        refine cR_lift (fun _ _ kk => eE_iload_n lk58_20 g3 kk) ?_
        obtain ⟨x9, h10, h⟩ := Option.bind_eq_some_iff.mp h
        refine cR_iald (cl := 7) (i := l0) (f := 5) lk58_21 (by decide) rfl bl0 h10 ?_
        refine cR_lift (fun _ _ kk => eE_iload_n lk58_22 g2 kk) ?_
        refine cR_icmp (t := 41) lk58_23 (by decide) (fun c11 => ?_) (fun c11 => ?_)
        · rw [if_pos c11] at h
          exact k_Lead_mostOf_7_5_b41_ok hp0 hL hF hKK g lv σ l0 l1 l2 l3 bl0 g0 g1 g2 g3 _ h
        · rw [if_neg c11] at h
          refine cR_lift (fun _ _ kk => eE_aload_n lk58_26 g0 kk) ?_
          refine cR_lift (fun _ _ kk => eE_iload_n lk58_27 g1 kk) ?_
          refine cR_lift (fun _ _ kk => eE_aload_n lk58_28 g0 kk) ?_
          refine cR_lift (fun _ _ kk => eE_iload_n lk58_29 g3 kk) ?_
          obtain ⟨x12, h13, h⟩ := Option.bind_eq_some_iff.mp h
          refine cR_iald (cl := 7) (i := l0) (f := 5) lk58_30 (by decide) rfl bl0 h13 ?_
          obtain ⟨p14, h15, h⟩ := Option.bind_eq_some_iff.mp h
          refine cR_stat (as := [.ref (caa E 7 l0 5), .int l1, .int x12]) lk58_31 mr_7_64 na_56 rfl rfl (by first | exact Nat.le_of_ble_eq_true rfl | (simp [xcat, cvo_cat, cat_i, cat_j, cat_r]; done)) mm_56 ws_56 (k_Lead_isReached_7_5_ok hp0 hL hF (d := d + 0) bl0 h15) (fun m16 => ?_)
          refine cR_if (t := 41) lk58_34 (by decide) (fun c17 => ?_) (fun c17 => ?_)
          · rw [if_pos c17] at h
            exact k_Lead_mostOf_7_5_b41_ok hp0 hL hF hKK g lv σ l0 l1 l2 l3 bl0 g0 g1 g2 g3 _ h
          · rw [if_neg c17] at h
            refine cR_lift (fun _ _ kk => eE_aload_n lk58_37 g0 kk) ?_
            refine cR_lift (fun _ _ kk => eE_iload_n lk58_38 g3 kk) ?_
            obtain ⟨x18, h19, h⟩ := Option.bind_eq_some_iff.mp h
            refine cR_iald (cl := 7) (i := l0) (f := 5) lk58_39 (by decide) rfl bl0 h19 ?_
            refine cR_stI (j := 2) lk58_40 (Or.inr ⟨_, rfl, rfl⟩) (by decide) (fun vq20 gq21 kq22 => ?_)
            have gq23 := kq22 0 _ (by decide) (fun e => absurd e (by decide)) g0
            have gq24 := kq22 1 _ (by decide) (fun _ => rfl) g1
            have gq25 := kq22 3 _ (by decide) (fun e => absurd e (by decide)) g3
            exact k_Lead_mostOf_7_5_b41_ok hp0 hL hF hKK g vq20 σ l0 l1 x18 l3 bl0 gq23 gq24 gq21 gq25 _ h
def k_Lead_mostOf_7_5_b0 (F : Nat)  (σ : CS) (l0 : Nat) (l1 : Int32) : Option (Int32) :=
  k_Lead_mostOf_7_5_b5 F  F σ l0 l1 ((-2147483648 : Int32)) ((0 : Int32))
set_option maxRecDepth 4000 in
theorem k_Lead_mostOf_7_5_b0_ok {E : CE} {pF : Nat → List Value → xH → Option (Option Value × xH)} (hp0 : xNPc pF) (hL : lcAll E pF) (hF : lcF pF) {d : Nat} {F : Nat}   : ∀ (g : CG) (lv : xL) (σ : CS) (l0 : Nat) (l1 : Int32), (cob σ 7 l0) → (xg lv 0 = some (.ref (caa E 7 l0 5))) → (xg lv 1 = some (.int l1)) → ∀ res, k_Lead_mostOf_7_5_b0 F  σ l0 l1 = some res → cR E cQ1 pF (d + 2) kT58 7 4 (some FieldType.int) (some (.int res)) σ g σ (0, lv, []) := by
  intro g lv σ l0 l1 bl0 g0 g1 res h
  unfold k_Lead_mostOf_7_5_b0 at h
  refine cR_lift (fun _ _ kk => eE_ldc (v := (-2147483648)) lk58_0 xc_7_63 kk) ?_
  refine cR_stI (j := 2) lk58_2 (Or.inr ⟨_, rfl, rfl⟩) (by decide) (fun vq26 gq27 kq28 => ?_)
  have gq29 := kq28 0 _ (by decide) (fun e => absurd e (by decide)) g0
  have gq30 := kq28 1 _ (by decide) (fun _ => rfl) g1
  refine cR_lift (fun _ _ kk => eE_iconst (v := 0) lk58_3 (by decide) kk) ?_
  refine cR_stI (j := 3) lk58_4 (Or.inr ⟨_, rfl, rfl⟩) (by decide) (fun vq31 gq32 kq33 => ?_)
  have gq34 := kq33 0 _ (by decide) (fun e => absurd e (by decide)) gq29
  have gq35 := kq33 1 _ (by decide) (fun e => absurd e (by decide)) gq30
  have gq36 := kq33 2 _ (by decide) (fun _ => rfl) gq27
  exact k_Lead_mostOf_7_5_b5_ok hp0 hL hF  F g vq31 σ l0 l1 ((-2147483648 : Int32)) ((0 : Int32)) bl0 gq34 gq35 gq36 gq32 _ h
def k_Lead_mostOf_7_5 (F : Nat) (σ : CS) (l0 : Nat) (l1 : Int32) : Option (Int32) := k_Lead_mostOf_7_5_b0 F σ l0 l1
theorem k_Lead_mostOf_7_5_ok {E : CE} {pF : Nat → List Value → xH → Option (Option Value × xH)} (hp0 : xNPc pF) (hL : lcAll E pF) (hF : lcF pF) {d : Nat} {g : CG} {σ : CS} {F : Nat} {l0 : Nat} {l1 : Int32} {res : Int32} (bl0 : cob σ 7 l0) (h : k_Lead_mostOf_7_5 F σ l0 l1 = some res) : cCo E cQ1 pF (d + 3) 58 [.ref (caa E 7 l0 5), .int l1] (some (.int res)) σ g σ :=
  cCo_R kk_58 mo_58 ni_58 xm_58 (Nat.le_of_ble_eq_true rfl) (hp0 58 (by decide) _) (k_Lead_mostOf_7_5_b0_ok hp0 hL hF g _ σ l0 l1 bl0 rfl rfl _ h)
/-! k_Lead_most_7_5 (57), depth 4 -/
def k_Lead_most_7_5_b34 (F : Nat)  (σ : CS) (s0 : Int32) : Option (Int32) :=
  some s0
set_option maxRecDepth 4000 in
theorem k_Lead_most_7_5_b34_ok {E : CE} {pF : Nat → List Value → xH → Option (Option Value × xH)} (hp0 : xNPc pF) (hL : lcAll E pF) (hF : lcF pF) {d : Nat} {F : Nat}   : ∀ (g : CG) (lv : xL) (σ : CS) (s0 : Int32), ∀ res, k_Lead_most_7_5_b34 F  σ s0 = some res → cR E cQ1 pF (d + 3) kT57 7 4 (some FieldType.int) (some (.int res)) σ g σ (34, lv, [.int s0]) := by
  intro g lv σ s0 res h
  unfold k_Lead_most_7_5_b34 at h
  cases h
  exact cR_end lk57_34 rfl rfl rfl
def k_Lead_most_7_5_b0 (F : Nat)  (σ : CS) (l0 : Nat) (l1 : Int32) : Option (Int32) :=
  (k_Lead_mostOf_7_5 F σ l0 (l1 &&& ((127 : Int32)))).bind fun p1 =>
  if xc0 .ne ((l1 >>> (((7 : Int32)) &&& 31)) &&& ((127 : Int32))) = true then (
    (k_Lead_mostOf_7_5 F σ l0 ((l1 >>> (((7 : Int32)) &&& 31)) &&& ((127 : Int32)))).bind fun p15 =>
    k_Lead_most_7_5_b34 F  σ (cmin p1 p15)
  ) else (
    k_Lead_most_7_5_b34 F  σ p1
  )
set_option maxRecDepth 4000 in
theorem k_Lead_most_7_5_b0_ok {E : CE} {pF : Nat → List Value → xH → Option (Option Value × xH)} (hp0 : xNPc pF) (hL : lcAll E pF) (hF : lcF pF) {d : Nat} {F : Nat}   : ∀ (g : CG) (lv : xL) (σ : CS) (l0 : Nat) (l1 : Int32), (cob σ 7 l0) → (xg lv 0 = some (.ref (caa E 7 l0 5))) → (xg lv 1 = some (.int l1)) → ∀ res, k_Lead_most_7_5_b0 F  σ l0 l1 = some res → cR E cQ1 pF (d + 3) kT57 7 4 (some FieldType.int) (some (.int res)) σ g σ (0, lv, []) := by
  intro g lv σ l0 l1 bl0 g0 g1 res h
  unfold k_Lead_most_7_5_b0 at h
  refine cR_lift (fun _ _ kk => eE_aload_n lk57_0 g0 kk) ?_
  refine cR_lift (fun _ _ kk => eE_iload_n lk57_1 g1 kk) ?_
  refine cR_lift (fun _ _ kk => eE_bipush (v := 127) lk57_2 (by decide) kk) ?_
  refine cR_lift (fun _ _ kk => eE_iand lk57_4 kk) ?_
  obtain ⟨p1, h2, h⟩ := Option.bind_eq_some_iff.mp h
  refine cR_stat (as := [.ref (caa E 7 l0 5), .int (l1 &&& ((127 : Int32)))]) lk57_5 mr_7_53 na_58 rfl rfl (by first | exact Nat.le_of_ble_eq_true rfl | (simp [xcat, cvo_cat, cat_i, cat_j, cat_r]; done)) mm_58 ws_58 (k_Lead_mostOf_7_5_ok hp0 hL hF (d := d + 0) bl0 h2) (fun m3 => ?_)
  refine cR_stI (j := 2) lk57_8 (Or.inr ⟨_, rfl, rfl⟩) (by decide) (fun vq4 gq5 kq6 => ?_)
  have gq7 := kq6 0 _ (by decide) (fun e => absurd e (by decide)) g0
  have gq8 := kq6 1 _ (by decide) (fun _ => rfl) g1
  refine cR_lift (fun _ _ kk => eE_iload_n lk57_9 gq8 kk) ?_
  refine cR_lift (fun _ _ kk => eE_bipush (v := 7) lk57_10 (by decide) kk) ?_
  refine cR_lift (fun _ _ kk => eE_ishr lk57_12 kk) ?_
  refine cR_lift (fun _ _ kk => eE_bipush (v := 127) lk57_13 (by decide) kk) ?_
  refine cR_lift (fun _ _ kk => eE_iand lk57_15 kk) ?_
  refine cR_stI (j := 3) lk57_16 (Or.inr ⟨_, rfl, rfl⟩) (by decide) (fun vq9 gq10 kq11 => ?_)
  have gq12 := kq11 0 _ (by decide) (fun e => absurd e (by decide)) gq7
  have gq13 := kq11 2 _ (by decide) (fun _ => rfl) gq5
  refine cR_lift (fun _ _ kk => eE_iload_n lk57_17 gq10 kk) ?_
  refine cR_if (t := 25) lk57_18 (by decide) (fun c14 => ?_) (fun c14 => ?_)
  · rw [if_pos c14] at h
    refine cR_lift (fun _ _ kk => eE_iload_n lk57_25 gq13 kk) ?_
    refine cR_lift (fun _ _ kk => eE_aload_n lk57_26 gq12 kk) ?_
    refine cR_lift (fun _ _ kk => eE_iload_n lk57_27 gq10 kk) ?_
    obtain ⟨p15, h16, h⟩ := Option.bind_eq_some_iff.mp h
    refine cR_stat (as := [.ref (caa E 7 l0 5), .int ((l1 >>> (((7 : Int32)) &&& 31)) &&& ((127 : Int32)))]) lk57_28 mr_7_53 na_58 rfl rfl (by first | exact Nat.le_of_ble_eq_true rfl | (simp [xcat, cvo_cat, cat_i, cat_j, cat_r]; done)) mm_58 ws_58 (k_Lead_mostOf_7_5_ok hp0 hL hF (d := d + 0) bl0 h16) (fun m17 => ?_)
    refine cR_min lk57_31 mr_7_57 (by first | exact Nat.le_of_ble_eq_true rfl | (simp [xcat, cvo_cat, cat_i, cat_j, cat_r]; done)) ?_
    exact k_Lead_most_7_5_b34_ok hp0 hL hF  g vq9 σ (cmin p1 p15)  _ h
  · rw [if_neg c14] at h
    refine cR_lift (fun _ _ kk => eE_iload_n lk57_21 gq13 kk) ?_
    refine cR_lift (fun _ _ kk => eE_goto (t := 34) lk57_22 (by decide) kk) ?_
    exact k_Lead_most_7_5_b34_ok hp0 hL hF  g vq9 σ p1  _ h
def k_Lead_most_7_5 (F : Nat) (σ : CS) (l0 : Nat) (l1 : Int32) : Option (Int32) := k_Lead_most_7_5_b0 F σ l0 l1
theorem k_Lead_most_7_5_ok {E : CE} {pF : Nat → List Value → xH → Option (Option Value × xH)} (hp0 : xNPc pF) (hL : lcAll E pF) (hF : lcF pF) {d : Nat} {g : CG} {σ : CS} {F : Nat} {l0 : Nat} {l1 : Int32} {res : Int32} (bl0 : cob σ 7 l0) (h : k_Lead_most_7_5 F σ l0 l1 = some res) : cCo E cQ1 pF (d + 4) 57 [.ref (caa E 7 l0 5), .int l1] (some (.int res)) σ g σ :=
  cCo_R kk_57 mo_57 ni_57 xm_57 (Nat.le_of_ble_eq_true rfl) (hp0 57 (by decide) _) (k_Lead_most_7_5_b0_ok hp0 hL hF g _ σ l0 l1 bl0 rfl rfl _ h)
/-! k_Server_wake (183), depth 14 -/
def k_Server_wake_b79 (F : Nat)  (σ : CS) : Option (CS) :=
  some σ
set_option maxRecDepth 4000 in
theorem k_Server_wake_b79_ok {E : CE} {pF : Nat → List Value → xH → Option (Option Value × xH)} (hp0 : xNPc pF) (hL : lcAll E pF) (hF : lcF pF) {d : Nat} {F : Nat}   : ∀ (g : CG) (lv : xL) (σ : CS), ∀ res, k_Server_wake_b79 F  σ = some res → cR E (cQx [13, 14]) pF (d + 13) kT183 13 1 none none res g σ (79, lv, []) := by
  intro g lv σ res h
  unfold k_Server_wake_b79 at h
  cases h
  exact cR_end lk183_79 rfl rfl rfl
def k_Server_wake_b157 (F : Nat)  (σ : CS) : Option (CS) :=
  some σ
set_option maxRecDepth 4000 in
theorem k_Server_wake_b157_ok {E : CE} {pF : Nat → List Value → xH → Option (Option Value × xH)} (hp0 : xNPc pF) (hL : lcAll E pF) (hF : lcF pF) {d : Nat} {F : Nat}   : ∀ (g : CG) (lv : xL) (σ : CS), ∀ res, k_Server_wake_b157 F  σ = some res → cR E (cQx [13, 14]) pF (d + 13) kT183 13 1 none none res g σ (157, lv, []) := by
  intro g lv σ res h
  unfold k_Server_wake_b157 at h
  cases h
  exact cR_end lk183_157 rfl rfl rfl
def k_Server_wake_b0 (F : Nat)  (σ : CS) (l0 : Nat) : Option (CS) :=
  if xc2 .ne (cI σ 13 l0 12 0) ((3 : Int32)) = true then (
    (k_World_drawAlarm σ 0 (cI σ 13 l0 0 0)).bind fun p2 =>
    (k_Server_voters p2 l0).bind fun p5 =>
    if xc0 .eq ((p5 >>> ((cI p2 13 l0 0 0) &&& 31)) &&& ((1 : Int32))) = true then (
      k_Server_wake_b157 F  p2
    ) else (
      (some (csI p2 13 l0 12 0 ((1 : Int32)))).bind fun σ9 =>
      (some (csI σ9 13 l0 13 0 ((-1 : Int32)))).bind fun σ11 =>
      (some (csI σ11 13 l0 15 0 (((1 : Int32)) <<< ((cI σ11 13 l0 0 0) &&& 31)))).bind fun σ13 =>
      (k_Server_askVoters F σ13 l0 ((1 : Int32)) ((cI σ13 13 l0 10 0) + ((1 : Int32)))).bind fun p15 =>
      (k_Server_isMajority p15 l0 (cI p15 13 l0 15 0)).bind fun p19 =>
      if xc0 .eq p19 = true then (
        k_Server_wake_b157 F  p15
      ) else (
        (some (csI p15 13 l0 19 0 ((cI p15 13 l0 19 0) ||| ((1 : Int32))))).bind fun σ23 =>
        k_Server_wake_b157 F  σ23
      )
    )
  ) else (
    (cwr σ 7 l0 5 (cI σ 13 l0 0 0) (cI σ 14 0 0 0)).bind fun σ25 =>
    (k_Lead_most_7_5 F σ25 l0 (cI σ25 9 l0 7 0)).bind fun p27 =>
    if xc2 .ge p27 ((cI σ25 14 0 0 0) - ((100 : Int32))) = true then (
      (some (csI σ25 13 l0 19 0 ((cI σ25 13 l0 19 0) ||| ((4 : Int32))))).bind fun σ31 =>
      k_Server_wake_b79 F  σ31
    ) else (
      (k_Server_stepDown F σ25 l0 (cI σ25 13 l0 10 0) ((-1 : Int32))).bind fun p33 =>
      k_Server_wake_b79 F  p33
    )
  )
set_option maxRecDepth 4000 in
theorem k_Server_wake_b0_ok {E : CE} {pF : Nat → List Value → xH → Option (Option Value × xH)} (hp0 : xNPc pF) (hL : lcAll E pF) (hF : lcF pF) {d : Nat} {F : Nat}   : ∀ (g : CG) (lv : xL) (σ : CS) (l0 : Nat), (cob σ 13 l0) → (xg lv 0 = some (.ref (coa E 13 l0))) → ∀ res, k_Server_wake_b0 F  σ l0 = some res → cR E (cQx [13, 14]) pF (d + 13) kT183 13 1 none none res g σ (0, lv, []) := by
  intro g lv σ l0 bl0 g0 res h
  unfold k_Server_wake_b0 at h
  refine cR_lift (fun _ _ kk => eE_aload_n lk183_0 g0 kk) ?_
  refine cR_getI lk183_1 rf_13_85 rfl bl0 ?_
  refine cR_lift (fun _ _ kk => eE_iconst (v := 3) lk183_4 (by decide) kk) ?_
  refine cR_icmp (t := 80) lk183_5 (by decide) (fun c1 => ?_) (fun c1 => ?_)
  · rw [if_pos c1] at h
    refine cR_lift (fun _ _ kk => eE_aload_n lk183_80 g0 kk) ?_
    refine cR_getO (cl' := 14) (i' := 0) lk183_81 rf_13_63 rfl rfl bl0 ?_
    refine cR_lift (fun _ _ kk => eE_aload_n lk183_84 g0 kk) ?_
    refine cR_getI lk183_85 rf_13_60 rfl bl0 ?_
    obtain ⟨p2, h3, h⟩ := Option.bind_eq_some_iff.mp h
    refine cR_virt (cl := 14) (i := 0) (as := [.int (cI σ 13 l0 0 0)]) lk183_88 mr_13_251 na_188 rfl rfl (by first | exact Nat.le_of_ble_eq_true rfl | (simp [xcat, cvo_cat, cat_i, cat_j, cat_r]; done)) wv_188 wc_188 (cob_0 (c := σ) (cl := 14) (by decide) rfl rfl) (k_World_drawAlarm_ok hp0 hL hF (d := d + 11) (cob_0 (c := σ) (cl := 14) (by decide) rfl rfl) h3) (fun m4  => ?_)
    refine cR_lift (fun _ _ kk => eE_aload_n lk183_91 g0 kk) ?_
    obtain ⟨p5, h6, h⟩ := Option.bind_eq_some_iff.mp h
    refine cR_virt (cl := 13) (i := l0) (as := []) lk183_92 mr_13_367 na_182 rfl rfl (by first | exact Nat.le_of_ble_eq_true rfl | (simp [xcat, cvo_cat, cat_i, cat_j, cat_r]; done)) wv_182 wc_182 (cob_any rfl bl0) (k_Server_voters_ok hp0 hL hF (d := d + 12) (cob_any rfl bl0) h6) (fun m7  => ?_)
    refine cR_lift (fun _ _ kk => eE_aload_n lk183_95 g0 kk) ?_
    refine cR_getI lk183_96 rf_13_60 rfl (cob_any rfl bl0) ?_
    refine cR_lift (fun _ _ kk => eE_ishr lk183_99 kk) ?_
    refine cR_lift (fun _ _ kk => eE_iconst (v := 1) lk183_100 (by decide) kk) ?_
    refine cR_lift (fun _ _ kk => eE_iand lk183_101 kk) ?_
    refine cR_if (t := 157) lk183_102 (by decide) (fun c8 => ?_) (fun c8 => ?_)
    · rw [if_pos c8] at h
      exact k_Server_wake_b157_ok hp0 hL hF  g lv p2  _ h
    · rw [if_neg c8] at h
      refine cR_lift (fun _ _ kk => eE_aload_n lk183_105 g0 kk) ?_
      refine cR_lift (fun _ _ kk => eE_iconst (v := 1) lk183_106 (by decide) kk) ?_
      obtain ⟨σ9, h10, h⟩ := Option.bind_eq_some_iff.mp h
      refine cR_putI lk183_107 rf_13_85 rfl (cob_any rfl bl0) pf_13_12 rfl h10 ?_
      refine cR_lift (fun _ _ kk => eE_aload_n lk183_110 g0 kk) ?_
      refine cR_lift (fun _ _ kk => eE_iconst (v := (-1)) lk183_111 (by decide) kk) ?_
      obtain ⟨σ11, h12, h⟩ := Option.bind_eq_some_iff.mp h
      refine cR_putI lk183_112 rf_13_47 rfl (cob_any rfl bl0) pf_13_13 rfl h12 ?_
      refine cR_lift (fun _ _ kk => eE_aload_n lk183_115 g0 kk) ?_
      refine cR_lift (fun _ _ kk => eE_iconst (v := 1) lk183_116 (by decide) kk) ?_
      refine cR_lift (fun _ _ kk => eE_aload_n lk183_117 g0 kk) ?_
      refine cR_getI lk183_118 rf_13_60 rfl (cob_any rfl bl0) ?_
      refine cR_lift (fun _ _ kk => eE_ishl lk183_121 kk) ?_
      obtain ⟨σ13, h14, h⟩ := Option.bind_eq_some_iff.mp h
      refine cR_putI lk183_122 rf_13_109 rfl (cob_any rfl bl0) pf_13_15 rfl h14 ?_
      refine cR_lift (fun _ _ kk => eE_aload_n lk183_125 g0 kk) ?_
      refine cR_lift (fun _ _ kk => eE_iconst (v := 1) lk183_126 (by decide) kk) ?_
      refine cR_lift (fun _ _ kk => eE_aload_n lk183_127 g0 kk) ?_
      refine cR_getI lk183_128 rf_13_88 rfl (cob_any rfl bl0) ?_
      refine cR_lift (fun _ _ kk => eE_iconst (v := 1) lk183_131 (by decide) kk) ?_
      refine cR_lift (fun _ _ kk => eE_iadd lk183_132 kk) ?_
      obtain ⟨p15, h16, h⟩ := Option.bind_eq_some_iff.mp h
      refine cR_virtG (by exact cQx_sub rfl) (cl := 13) (i := l0) (as := [.int ((1 : Int32)), .int ((cI σ13 13 l0 10 0) + ((1 : Int32)))]) lk183_133 mr_13_441 na_125 rfl rfl (by first | exact Nat.le_of_ble_eq_true rfl | (simp [xcat, cvo_cat, cat_i, cat_j, cat_r]; done)) wv_125 wc_125 (cob_any rfl bl0) (k_Server_askVoters_ok hp0 hL hF (d := d + 0) (cob_any rfl bl0) h16) (fun m17 g_18 g_18e => ?_)
      refine cR_lift (fun _ _ kk => eE_aload_n lk183_136 g0 kk) ?_
      refine cR_lift (fun _ _ kk => eE_aload_n lk183_137 g0 kk) ?_
      refine cR_getI lk183_138 rf_13_109 rfl (cob_any rfl bl0) ?_
      obtain ⟨p19, h20, h⟩ := Option.bind_eq_some_iff.mp h
      refine cR_virt (cl := 13) (i := l0) (as := [.int (cI p15 13 l0 15 0)]) lk183_141 mr_13_444 na_142 rfl rfl (by first | exact Nat.le_of_ble_eq_true rfl | (simp [xcat, cvo_cat, cat_i, cat_j, cat_r]; done)) wv_142 wc_142 (cob_any rfl bl0) (k_Server_isMajority_ok hp0 hL hF (d := d + 11) (cob_any rfl bl0) h20) (fun m21  => ?_)
      refine cR_if (t := 157) lk183_144 (by decide) (fun c22 => ?_) (fun c22 => ?_)
      · rw [if_pos c22] at h
        exact k_Server_wake_b157_ok hp0 hL hF  g_18 lv p15  _ h
      · rw [if_neg c22] at h
        refine cR_lift (fun _ _ kk => eE_aload_n lk183_147 g0 kk) ?_
        refine cR_lift (fun _ _ kk => eE_dup lk183_148 rfl kk) ?_
        refine cR_getI lk183_149 rf_13_146 rfl (cob_any rfl bl0) ?_
        refine cR_lift (fun _ _ kk => eE_iconst (v := 1) lk183_152 (by decide) kk) ?_
        refine cR_lift (fun _ _ kk => eE_ior lk183_153 kk) ?_
        obtain ⟨σ23, h24, h⟩ := Option.bind_eq_some_iff.mp h
        refine cR_putI lk183_154 rf_13_146 rfl (cob_any rfl bl0) pf_13_19 rfl h24 ?_
        exact k_Server_wake_b157_ok hp0 hL hF  g_18 lv σ23  _ h
  · rw [if_neg c1] at h
    refine cR_lift (fun _ _ kk => eE_aload_n lk183_8 g0 kk) ?_
    refine cR_getO (cl' := 7) (i' := l0) lk183_9 rf_13_21 rfl rfl bl0 ?_
    refine cR_getA lk183_12 rf_13_431 (by decide) (cob_s (cl := 7) bl0 (by decide) rfl rfl) ?_
    refine cR_lift (fun _ _ kk => eE_aload_n lk183_15 g0 kk) ?_
    refine cR_getI lk183_16 rf_13_60 rfl bl0 ?_
    refine cR_lift (fun _ _ kk => eE_aload_n lk183_19 g0 kk) ?_
    refine cR_getO (cl' := 14) (i' := 0) lk183_20 rf_13_63 rfl rfl bl0 ?_
    refine cR_getI lk183_23 rf_13_241 rfl (cob_0 (c := σ) (cl := 14) (by decide) rfl rfl) ?_
    obtain ⟨σ25, h26, h⟩ := Option.bind_eq_some_iff.mp h
    refine cR_iast (cl := 7) (i := l0) (f := 5) lk183_26 (by decide) rfl (cob_s (cl := 7) bl0 (by decide) rfl rfl) h26 ?_
    refine cR_lift (fun _ _ kk => eE_aload_n lk183_27 g0 kk) ?_
    refine cR_getO (cl' := 7) (i' := l0) lk183_28 rf_13_21 rfl rfl (cob_any rfl bl0) ?_
    refine cR_getA lk183_31 rf_13_431 (by decide) (cob_s (cl := 7) (cob_any rfl bl0) (by decide) rfl rfl) ?_
    refine cR_lift (fun _ _ kk => eE_aload_n lk183_34 g0 kk) ?_
    refine cR_getO (cl' := 9) (i' := l0) lk183_35 rf_13_72 rfl rfl (cob_any rfl bl0) ?_
    refine cR_getI lk183_38 rf_13_106 rfl (cob_s (cl := 9) (cob_any rfl bl0) (by decide) rfl rfl) ?_
    obtain ⟨p27, h28, h⟩ := Option.bind_eq_some_iff.mp h
    refine cR_stat (as := [.ref (caa E 7 l0 5), .int (cI σ25 9 l0 7 0)]) lk183_41 mr_13_434 na_57 rfl rfl (by first | exact Nat.le_of_ble_eq_true rfl | (simp [xcat, cvo_cat, cat_i, cat_j, cat_r]; done)) mm_57 ws_57 (k_Lead_most_7_5_ok hp0 hL hF (d := d + 9) (cob_s (cl := 7) (cob_any rfl bl0) (by decide) rfl rfl) h28) (fun m29 => ?_)
    refine cR_lift (fun _ _ kk => eE_aload_n lk183_44 g0 kk) ?_
    refine cR_getO (cl' := 14) (i' := 0) lk183_45 rf_13_63 rfl rfl (cob_any rfl bl0) ?_
    refine cR_getI lk183_48 rf_13_241 rfl (cob_0 (c := σ25) (cl := 14) (by decide) rfl rfl) ?_
    refine cR_lift (fun _ _ kk => eE_bipush (v := 100) lk183_51 (by decide) kk) ?_
    refine cR_lift (fun _ _ kk => eE_isub lk183_53 kk) ?_
    refine cR_icmp (t := 69) lk183_54 (by decide) (fun c30 => ?_) (fun c30 => ?_)
    · rw [if_pos c30] at h
      refine cR_lift (fun _ _ kk => eE_aload_n lk183_69 g0 kk) ?_
      refine cR_lift (fun _ _ kk => eE_dup lk183_70 rfl kk) ?_
      refine cR_getI lk183_71 rf_13_146 rfl (cob_any rfl bl0) ?_
      refine cR_lift (fun _ _ kk => eE_iconst (v := 4) lk183_74 (by decide) kk) ?_
      refine cR_lift (fun _ _ kk => eE_ior lk183_75 kk) ?_
      obtain ⟨σ31, h32, h⟩ := Option.bind_eq_some_iff.mp h
      refine cR_putI lk183_76 rf_13_146 rfl (cob_any rfl bl0) pf_13_19 rfl h32 ?_
      exact k_Server_wake_b79_ok hp0 hL hF  g lv σ31  _ h
    · rw [if_neg c30] at h
      refine cR_lift (fun _ _ kk => eE_aload_n lk183_57 g0 kk) ?_
      refine cR_lift (fun _ _ kk => eE_aload_n lk183_58 g0 kk) ?_
      refine cR_getI lk183_59 rf_13_88 rfl (cob_any rfl bl0) ?_
      refine cR_lift (fun _ _ kk => eE_iconst (v := (-1)) lk183_62 (by decide) kk) ?_
      obtain ⟨p33, h34, h⟩ := Option.bind_eq_some_iff.mp h
      refine cR_virt (cl := 13) (i := l0) (as := [.int (cI σ25 13 l0 10 0), .int ((-1 : Int32))]) lk183_63 mr_13_438 na_166 rfl rfl (by first | exact Nat.le_of_ble_eq_true rfl | (simp [xcat, cvo_cat, cat_i, cat_j, cat_r]; done)) wv_166 wc_166 (cob_any rfl bl0) (k_Server_stepDown_ok hp0 hL hF (d := d + 9) (cob_any rfl bl0) h34) (fun m35  => ?_)
      refine cR_lift (fun _ _ kk => eE_goto (t := 79) lk183_66 (by decide) kk) ?_
      exact k_Server_wake_b79_ok hp0 hL hF  g lv p33  _ h
def k_Server_wake (F : Nat) (σ : CS) (l0 : Nat) : Option (CS) := k_Server_wake_b0 F σ l0
theorem k_Server_wake_ok {E : CE} {pF : Nat → List Value → xH → Option (Option Value × xH)} (hp0 : xNPc pF) (hL : lcAll E pF) (hF : lcF pF) {d : Nat} {g : CG} {σ : CS} {F : Nat} {l0 : Nat} {res : CS} (bl0 : cob σ 13 l0) (h : k_Server_wake F σ l0 = some res) : cCo E (cQx [13, 14]) pF (d + 14) 183 [.ref (coa E 13 l0)] none res g σ :=
  cCo_R kk_183 mo_183 ni_183 xm_183 (Nat.le_of_ble_eq_true rfl) (hp0 183 (by decide) _) (k_Server_wake_b0_ok hp0 hL hF g _ σ l0 bl0 rfl _ h)
/-! k_World_hasLetter (193), depth 10 -/
def k_World_hasLetter_b20  (σ : CS) (s0 : Int32) : Option (Int32) :=
  if s0 = 0 ∨ s0 = 1 then some s0 else none
set_option maxRecDepth 4000 in
theorem k_World_hasLetter_b20_ok {E : CE} {pF : Nat → List Value → xH → Option (Option Value × xH)} (hp0 : xNPc pF) (hL : lcAll E pF) (hF : lcF pF) {d : Nat}   : ∀ (g : CG) (lv : xL) (σ : CS) (s0 : Int32), ∀ res, k_World_hasLetter_b20  σ s0 = some res → cR E cQ1 pF (d + 9) kT193 14 2 (some FieldType.boolean) (some (.int res)) σ g σ (20, lv, [.int s0]) := by
  intro g lv σ s0 res h
  unfold k_World_hasLetter_b20 at h
  by_cases z1 : s0 = 0 ∨ s0 = 1
  · rw [if_pos z1] at h; cases h
    exact cR_end lk193_20 rfl rfl (by first | (simp only [xfin, if_true, if_pos z1]; done) | simp [xfin, z1])
  · rw [if_neg z1] at h; cases h
def k_World_hasLetter_b19  (σ : CS) : Option (Int32) :=
  k_World_hasLetter_b20  σ ((0 : Int32))
set_option maxRecDepth 4000 in
theorem k_World_hasLetter_b19_ok {E : CE} {pF : Nat → List Value → xH → Option (Option Value × xH)} (hp0 : xNPc pF) (hL : lcAll E pF) (hF : lcF pF) {d : Nat}   : ∀ (g : CG) (lv : xL) (σ : CS), ∀ res, k_World_hasLetter_b19  σ = some res → cR E cQ1 pF (d + 9) kT193 14 2 (some FieldType.boolean) (some (.int res)) σ g σ (19, lv, []) := by
  intro g lv σ res h
  unfold k_World_hasLetter_b19 at h
  refine cR_lift (fun _ _ kk => eE_iconst (v := 0) lk193_19 (by decide) kk) ?_
  exact k_World_hasLetter_b20_ok hp0 hL hF  g lv σ ((0 : Int32))  _ h
def k_World_hasLetter_b0  (σ : CS) (l0 : Nat) (l1 : Int32) : Option (Int32) :=
  if xc0 .lt l1 = true then (
    k_World_hasLetter_b19  σ
  ) else (
    if xc2 .ge l1 (clsz σ 14 l0 15) = true then (
      k_World_hasLetter_b19  σ
    ) else (
      k_World_hasLetter_b20  σ ((1 : Int32))
    )
  )
set_option maxRecDepth 4000 in
theorem k_World_hasLetter_b0_ok {E : CE} {pF : Nat → List Value → xH → Option (Option Value × xH)} (hp0 : xNPc pF) (hL : lcAll E pF) (hF : lcF pF) {d : Nat}   : ∀ (g : CG) (lv : xL) (σ : CS) (l0 : Nat) (l1 : Int32), (cob σ 14 l0) → (xg lv 0 = some (.ref (coa E 14 l0))) → (xg lv 1 = some (.int l1)) → ∀ res, k_World_hasLetter_b0  σ l0 l1 = some res → cR E cQ1 pF (d + 9) kT193 14 2 (some FieldType.boolean) (some (.int res)) σ g σ (0, lv, []) := by
  intro g lv σ l0 l1 bl0 g0 g1 res h
  unfold k_World_hasLetter_b0 at h
  refine cR_lift (fun _ _ kk => eE_iload_n lk193_0 g1 kk) ?_
  refine cR_if (t := 19) lk193_1 (by decide) (fun c2 => ?_) (fun c2 => ?_)
  · rw [if_pos c2] at h
    exact k_World_hasLetter_b19_ok hp0 hL hF  g lv σ  _ h
  · rw [if_neg c2] at h
    refine cR_lift (fun _ _ kk => eE_iload_n lk193_4 g1 kk) ?_
    refine cR_lift (fun _ _ kk => eE_aload_n lk193_5 g0 kk) ?_
    refine cR_getA lk193_6 rf_14_31 (by decide) bl0 ?_
    refine cR_virtL (cl := 14) (i := l0) (f := 15) (as := []) lk193_9 mr_14_55 na_14 rfl rfl (by first | exact Nat.le_of_ble_eq_true rfl | (simp [xcat, cvo_cat, cat_i, cat_j, cat_r]; done)) wv_14 wc_14 rfl bl0 ((hL (d + 0)).1 E g _ 14 l0 15 rfl bl0) (fun _ => ?_)
    refine cR_icmp (t := 19) lk193_12 (by decide) (fun c3 => ?_) (fun c3 => ?_)
    · rw [if_pos c3] at h
      exact k_World_hasLetter_b19_ok hp0 hL hF  g lv σ  _ h
    · rw [if_neg c3] at h
      refine cR_lift (fun _ _ kk => eE_iconst (v := 1) lk193_15 (by decide) kk) ?_
      refine cR_lift (fun _ _ kk => eE_goto (t := 20) lk193_16 (by decide) kk) ?_
      exact k_World_hasLetter_b20_ok hp0 hL hF  g lv σ ((1 : Int32))  _ h
def k_World_hasLetter (σ : CS) (l0 : Nat) (l1 : Int32) : Option (Int32) := k_World_hasLetter_b0 σ l0 l1
theorem k_World_hasLetter_ok {E : CE} {pF : Nat → List Value → xH → Option (Option Value × xH)} (hp0 : xNPc pF) (hL : lcAll E pF) (hF : lcF pF) {d : Nat} {g : CG} {σ : CS} {l0 : Nat} {l1 : Int32} {res : Int32} (bl0 : cob σ 14 l0) (h : k_World_hasLetter σ l0 l1 = some res) : cCo E cQ1 pF (d + 10) 193 [.ref (coa E 14 l0), .int l1] (some (.int res)) σ g σ :=
  cCo_R kk_193 mo_193 ni_193 xm_193 (Nat.le_of_ble_eq_true rfl) (hp0 193 (by decide) _) (k_World_hasLetter_b0_ok hp0 hL hF g _ σ l0 l1 bl0 rfl rfl _ h)
/-! k_World_deferLetter (186), depth 11 -/
def k_World_deferLetter_b41 (F : Nat)  (σ : CS) : Option (CS) :=
  some σ
set_option maxRecDepth 4000 in
theorem k_World_deferLetter_b41_ok {E : CE} {pF : Nat → List Value → xH → Option (Option Value × xH)} (hp0 : xNPc pF) (hL : lcAll E pF) (hF : lcF pF) {d : Nat} {F : Nat}   : ∀ (g : CG) (lv : xL) (σ : CS), ∀ res, k_World_deferLetter_b41 F  σ = some res → cR E (cQx [14]) pF (d + 10) kT186 14 4 none none res g σ (41, lv, []) := by
  intro g lv σ res h
  unfold k_World_deferLetter_b41 at h
  cases h
  exact cR_end lk186_41 rfl rfl rfl
def k_World_deferLetter_b0 (F : Nat)  (σ : CS) (l0 : Nat) (l1 : Int32) (l2 : Int32) : Option (CS) :=
  (k_World_hasLetter σ l0 l1).bind fun p1 =>
  if xc0 .eq p1 = true then (
    k_World_deferLetter_b41 F  σ
  ) else (
    (clrem σ 14 l0 15 l1).bind fun p6 =>
    (some (csI p6.2 14 l0 3 0 ((cI p6.2 14 l0 3 0) - ((1 : Int32))))).bind fun σ13 =>
    (k_World_launch F σ13 l0 p6.1 ((cI σ13 8 p6.1 0 0) + l2)).bind fun p15 =>
    k_World_deferLetter_b41 F  p15
  )
set_option maxRecDepth 4000 in
theorem k_World_deferLetter_b0_ok {E : CE} {pF : Nat → List Value → xH → Option (Option Value × xH)} (hp0 : xNPc pF) (hL : lcAll E pF) (hF : lcF pF) {d : Nat} {F : Nat}   : ∀ (g : CG) (lv : xL) (σ : CS) (l0 : Nat) (l1 : Int32) (l2 : Int32), (cob σ 14 l0) → (xg lv 0 = some (.ref (coa E 14 l0))) → (xg lv 1 = some (.int l1)) → (xg lv 2 = some (.int l2)) → ∀ res, k_World_deferLetter_b0 F  σ l0 l1 l2 = some res → cR E (cQx [14]) pF (d + 10) kT186 14 4 none none res g σ (0, lv, []) := by
  intro g lv σ l0 l1 l2 bl0 g0 g1 g2 res h
  unfold k_World_deferLetter_b0 at h
  refine cR_lift (fun _ _ kk => eE_aload_n lk186_0 g0 kk) ?_
  refine cR_lift (fun _ _ kk => eE_iload_n lk186_1 g1 kk) ?_
  obtain ⟨p1, h2, h⟩ := Option.bind_eq_some_iff.mp h
  refine cR_virt (cl := 14) (i := l0) (as := [.int l1]) lk186_2 mr_14_133 na_193 rfl rfl (by first | exact Nat.le_of_ble_eq_true rfl | (simp [xcat, cvo_cat, cat_i, cat_j, cat_r]; done)) wv_193 wc_193 bl0 (k_World_hasLetter_ok hp0 hL hF (d := d + 0) bl0 h2) (fun m3  => ?_)
  refine cR_if (t := 41) lk186_5 (by decide) (fun c4 => ?_) (fun c4 => ?_)
  · rw [if_pos c4] at h
    exact k_World_deferLetter_b41_ok hp0 hL hF  g lv σ  _ h
  · rw [if_neg c4] at h
    refine cR_lift (fun _ _ kk => eE_aload_n lk186_8 g0 kk) ?_
    refine cR_getA lk186_9 rf_14_31 (by decide) bl0 ?_
    refine cR_lift (fun _ _ kk => eE_iload_n lk186_12 g1 kk) ?_
    obtain ⟨p6, h7, h⟩ := Option.bind_eq_some_iff.mp h
    refine cR_rep (fun _ hc => clrem_lt hc h7) (fun b5 => ?_)
    refine cR_virtL (cl := 14) (i := l0) (f := 15) (c1 := p6.2) (r := some (.ref p6.1)) (as := [.int l1]) lk186_13 mr_14_59 na_13 rfl rfl (by first | exact Nat.le_of_ble_eq_true rfl | (simp [xcat, cvo_cat, cat_i, cat_j, cat_r]; done)) wv_13 wc_13 rfl bl0 ((hL (d + 1)).2.2.2.2.2.1 E g _ 14 l0 15 _ p6.1 p6.2 rfl bl0 h7) (fun _ => ?_)
    refine cR_cast lk186_16 xk_14_52 b5 ?_
    refine cR_stA (j := 3) lk186_19 (Or.inr ⟨_, rfl, rfl⟩) (by decide) (fun vq8 gq9 kq10 => ?_)
    have gq11 := kq10 0 _ (by decide) (fun e => absurd e (by decide)) g0
    have gq12 := kq10 2 _ (by decide) (fun _ => rfl) g2
    refine cR_lift (fun _ _ kk => eE_aload_n lk186_20 gq11 kk) ?_
    refine cR_lift (fun _ _ kk => eE_dup lk186_21 rfl kk) ?_
    refine cR_getI lk186_22 rf_14_124 rfl (cob_any rfl bl0) ?_
    refine cR_lift (fun _ _ kk => eE_iconst (v := 1) lk186_25 (by decide) kk) ?_
    refine cR_lift (fun _ _ kk => eE_isub lk186_26 kk) ?_
    obtain ⟨σ13, h14, h⟩ := Option.bind_eq_some_iff.mp h
    refine cR_putI lk186_27 rf_14_124 rfl (cob_any rfl bl0) pf_14_3 rfl h14 ?_
    refine cR_lift (fun _ _ kk => eE_aload_n lk186_30 gq11 kk) ?_
    refine cR_lift (fun _ _ kk => eE_aload_n lk186_31 gq9 kk) ?_
    refine cR_lift (fun _ _ kk => eE_aload_n lk186_32 gq9 kk) ?_
    refine cR_getI lk186_33 rf_14_115 rfl (cob_mon (cput_mon h14) b5) ?_
    refine cR_lift (fun _ _ kk => eE_iload_n lk186_36 gq12 kk) ?_
    refine cR_lift (fun _ _ kk => eE_iadd lk186_37 kk) ?_
    obtain ⟨p15, h16, h⟩ := Option.bind_eq_some_iff.mp h
    refine cR_virtG (by exact cQx_sub rfl) (cl := 14) (i := l0) (as := [.ref (coa E 8 p6.1), .int ((cI σ13 8 p6.1 0 0) + l2)]) lk186_38 mr_14_89 na_197 rfl rfl (by first | exact Nat.le_of_ble_eq_true rfl | (simp [xcat, cvo_cat, cat_i, cat_j, cat_r]; done)) wv_197 wc_197 (cob_any rfl bl0) (k_World_launch_ok hp0 hL hF (d := d + 0) (cob_any rfl bl0) (cob_mon (cput_mon h14) b5) h16) (fun m17 g_18 g_18e => ?_)
    exact k_World_deferLetter_b41_ok hp0 hL hF  g_18 vq8 p15  _ h
def k_World_deferLetter (F : Nat) (σ : CS) (l0 : Nat) (l1 : Int32) (l2 : Int32) : Option (CS) := k_World_deferLetter_b0 F σ l0 l1 l2
theorem k_World_deferLetter_ok {E : CE} {pF : Nat → List Value → xH → Option (Option Value × xH)} (hp0 : xNPc pF) (hL : lcAll E pF) (hF : lcF pF) {d : Nat} {g : CG} {σ : CS} {F : Nat} {l0 : Nat} {l1 : Int32} {l2 : Int32} {res : CS} (bl0 : cob σ 14 l0) (h : k_World_deferLetter F σ l0 l1 l2 = some res) : cCo E (cQx [14]) pF (d + 11) 186 [.ref (coa E 14 l0), .int l1, .int l2] none res g σ :=
  cCo_R kk_186 mo_186 ni_186 xm_186 (Nat.le_of_ble_eq_true rfl) (hp0 186 (by decide) _) (k_World_deferLetter_b0_ok hp0 hL hF g _ σ l0 l1 l2 bl0 rfl rfl rfl _ h)
/-! k_World_doubleLetter (187), depth 11 -/
def k_World_doubleLetter_b57 (F : Nat)  (σ : CS) : Option (CS) :=
  some σ
set_option maxRecDepth 4000 in
theorem k_World_doubleLetter_b57_ok {E : CE} {pF : Nat → List Value → xH → Option (Option Value × xH)} (hp0 : xNPc pF) (hL : lcAll E pF) (hF : lcF pF) {d : Nat} {F : Nat}   : ∀ (g : CG) (lv : xL) (σ : CS), ∀ res, k_World_doubleLetter_b57 F  σ = some res → cR E (cQx [14]) pF (d + 10) kT187 14 4 none none res g σ (57, lv, []) := by
  intro g lv σ res h
  unfold k_World_doubleLetter_b57 at h
  cases h
  exact cR_end lk187_57 rfl rfl rfl
def k_World_doubleLetter_b0 (F : Nat)  (σ : CS) (l0 : Nat) (l1 : Int32) : Option (CS) :=
  (k_World_hasLetter σ l0 l1).bind fun p1 =>
  if xc0 .eq p1 = true then (
    k_World_doubleLetter_b57 F  σ
  ) else (
    (clget σ 14 l0 15 l1).bind fun a6 =>
    (k_World_blank σ l0).bind fun p12 =>
    (k_Letter_copyFrom p12.2 p12.1 a6).bind fun p21 =>
    (crd p21 14 l0 12 (((cI p21 8 a6 2 0) * ((16 : Int32))) + (cI p21 8 a6 3 0))).bind fun x24 =>
    (k_World_launch F p21 l0 p12.1 ((cI p21 14 l0 0 0) + x24)).bind fun p26 =>
    k_World_doubleLetter_b57 F  p26
  )
set_option maxRecDepth 4000 in
theorem k_World_doubleLetter_b0_ok {E : CE} {pF : Nat → List Value → xH → Option (Option Value × xH)} (hp0 : xNPc pF) (hL : lcAll E pF) (hF : lcF pF) {d : Nat} {F : Nat}   : ∀ (g : CG) (lv : xL) (σ : CS) (l0 : Nat) (l1 : Int32), (cob σ 14 l0) → (xg lv 0 = some (.ref (coa E 14 l0))) → (xg lv 1 = some (.int l1)) → ∀ res, k_World_doubleLetter_b0 F  σ l0 l1 = some res → cR E (cQx [14]) pF (d + 10) kT187 14 4 none none res g σ (0, lv, []) := by
  intro g lv σ l0 l1 bl0 g0 g1 res h
  unfold k_World_doubleLetter_b0 at h
  refine cR_lift (fun _ _ kk => eE_aload_n lk187_0 g0 kk) ?_
  refine cR_lift (fun _ _ kk => eE_iload_n lk187_1 g1 kk) ?_
  obtain ⟨p1, h2, h⟩ := Option.bind_eq_some_iff.mp h
  refine cR_virt (cl := 14) (i := l0) (as := [.int l1]) lk187_2 mr_14_133 na_193 rfl rfl (by first | exact Nat.le_of_ble_eq_true rfl | (simp [xcat, cvo_cat, cat_i, cat_j, cat_r]; done)) wv_193 wc_193 bl0 (k_World_hasLetter_ok hp0 hL hF (d := d + 0) bl0 h2) (fun m3  => ?_)
  refine cR_if (t := 57) lk187_5 (by decide) (fun c4 => ?_) (fun c4 => ?_)
  · rw [if_pos c4] at h
    exact k_World_doubleLetter_b57_ok hp0 hL hF  g lv σ  _ h
  · rw [if_neg c4] at h
    refine cR_lift (fun _ _ kk => eE_aload_n lk187_8 g0 kk) ?_
    refine cR_getA lk187_9 rf_14_31 (by decide) bl0 ?_
    refine cR_lift (fun _ _ kk => eE_iload_n lk187_12 g1 kk) ?_
    obtain ⟨a6, h7, h⟩ := Option.bind_eq_some_iff.mp h
    refine cR_rep (fun _ hc => cob8 (clget_lt hc h7)) (fun b5 => ?_)
    refine cR_virtL (cl := 14) (i := l0) (f := 15) (as := [.int l1]) lk187_13 mr_14_127 na_6 rfl rfl (by first | exact Nat.le_of_ble_eq_true rfl | (simp [xcat, cvo_cat, cat_i, cat_j, cat_r]; done)) wv_6 wc_6 rfl bl0 ((hL (d + 1)).2.2.1 E g _ 14 l0 15 _ _ rfl bl0 h7) (fun _ => ?_)
    refine cR_cast lk187_16 xk_14_52 b5 ?_
    refine cR_stA (j := 2) lk187_19 (Or.inr ⟨_, rfl, rfl⟩) (by decide) (fun vq8 gq9 kq10 => ?_)
    have gq11 := kq10 0 _ (by decide) (fun e => absurd e (by decide)) g0
    refine cR_lift (fun _ _ kk => eE_aload_n lk187_20 gq11 kk) ?_
    obtain ⟨p12, h13, h⟩ := Option.bind_eq_some_iff.mp h
    refine cR_rep (fun _ hc => k_World_blank_lt hc bl0 h13) (fun b14 => ?_)
    refine cR_virt (cl := 14) (i := l0) (as := []) lk187_21 mr_14_137 na_185 rfl rfl (by first | exact Nat.le_of_ble_eq_true rfl | (simp [xcat, cvo_cat, cat_i, cat_j, cat_r]; done)) wv_185 wc_185 bl0 (k_World_blank_ok hp0 hL hF (d := d + 0) bl0 h13) (fun m15  => ?_)
    refine cR_stA (j := 3) lk187_24 (Or.inr ⟨_, rfl, rfl⟩) (by decide) (fun vq16 gq17 kq18 => ?_)
    have gq19 := kq18 0 _ (by decide) (fun e => absurd e (by decide)) gq11
    have gq20 := kq18 2 _ (by decide) (fun _ => rfl) gq9
    refine cR_lift (fun _ _ kk => eE_aload_n lk187_25 gq17 kk) ?_
    refine cR_lift (fun _ _ kk => eE_aload_n lk187_26 gq20 kk) ?_
    obtain ⟨p21, h22, h⟩ := Option.bind_eq_some_iff.mp h
    refine cR_virt (cl := 8) (i := p12.1) (as := [.ref (coa E 8 a6)]) lk187_27 mr_14_97 na_59 rfl rfl (by first | exact Nat.le_of_ble_eq_true rfl | (simp [xcat, cvo_cat, cat_i, cat_j, cat_r]; done)) wv_59 wc_59 b14 (k_Letter_copyFrom_ok hp0 hL hF (d := d + 9) b14 (cob_mon m15 b5) h22) (fun m23  => ?_)
    refine cR_lift (fun _ _ kk => eE_aload_n lk187_30 gq19 kk) ?_
    refine cR_lift (fun _ _ kk => eE_aload_n lk187_31 gq17 kk) ?_
    refine cR_lift (fun _ _ kk => eE_aload_n lk187_32 gq19 kk) ?_
    refine cR_getI lk187_33 rf_14_77 rfl (cob_any rfl bl0) ?_
    refine cR_lift (fun _ _ kk => eE_aload_n lk187_36 gq19 kk) ?_
    refine cR_getA lk187_37 rf_14_18 (by decide) (cob_any rfl bl0) ?_
    refine cR_lift (fun _ _ kk => eE_aload_n lk187_40 gq20 kk) ?_
    refine cR_getI lk187_41 rf_14_63 rfl (cob_mon m23 (cob_mon m15 b5)) ?_
    refine cR_lift (fun _ _ kk => eE_bipush (v := 16) lk187_44 (by decide) kk) ?_
    refine cR_lift (fun _ _ kk => eE_imul lk187_46 kk) ?_
    refine cR_lift (fun _ _ kk => eE_aload_n lk187_47 gq20 kk) ?_
    refine cR_getI lk187_48 rf_14_66 rfl (cob_mon m23 (cob_mon m15 b5)) ?_
    refine cR_lift (fun _ _ kk => eE_iadd lk187_51 kk) ?_
    obtain ⟨x24, h25, h⟩ := Option.bind_eq_some_iff.mp h
    refine cR_iald (cl := 14) (i := l0) (f := 12) lk187_52 (by decide) rfl (cob_any rfl bl0) h25 ?_
    refine cR_lift (fun _ _ kk => eE_iadd lk187_53 kk) ?_
    obtain ⟨p26, h27, h⟩ := Option.bind_eq_some_iff.mp h
    refine cR_virtG (by exact cQx_sub rfl) (cl := 14) (i := l0) (as := [.ref (coa E 8 p12.1), .int ((cI p21 14 l0 0 0) + x24)]) lk187_54 mr_14_89 na_197 rfl rfl (by first | exact Nat.le_of_ble_eq_true rfl | (simp [xcat, cvo_cat, cat_i, cat_j, cat_r]; done)) wv_197 wc_197 (cob_any rfl bl0) (k_World_launch_ok hp0 hL hF (d := d + 0) (cob_any rfl bl0) (cob_mon m23 b14) h27) (fun m28 g_29 g_29e => ?_)
    exact k_World_doubleLetter_b57_ok hp0 hL hF  g_29 vq16 p26  _ h
def k_World_doubleLetter (F : Nat) (σ : CS) (l0 : Nat) (l1 : Int32) : Option (CS) := k_World_doubleLetter_b0 F σ l0 l1
theorem k_World_doubleLetter_ok {E : CE} {pF : Nat → List Value → xH → Option (Option Value × xH)} (hp0 : xNPc pF) (hL : lcAll E pF) (hF : lcF pF) {d : Nat} {g : CG} {σ : CS} {F : Nat} {l0 : Nat} {l1 : Int32} {res : CS} (bl0 : cob σ 14 l0) (h : k_World_doubleLetter F σ l0 l1 = some res) : cCo E (cQx [14]) pF (d + 11) 187 [.ref (coa E 14 l0), .int l1] none res g σ :=
  cCo_R kk_187 mo_187 ni_187 xm_187 (Nat.le_of_ble_eq_true rfl) (hp0 187 (by decide) _) (k_World_doubleLetter_b0_ok hp0 hL hF g _ σ l0 l1 bl0 rfl rfl _ h)
/-! k_World_dropLetter (190), depth 11 -/
def k_World_dropLetter_b23  (σ : CS) : Option (CS) :=
  some σ
set_option maxRecDepth 4000 in
theorem k_World_dropLetter_b23_ok {E : CE} {pF : Nat → List Value → xH → Option (Option Value × xH)} (hp0 : xNPc pF) (hL : lcAll E pF) (hF : lcF pF) {d : Nat}   : ∀ (g : CG) (lv : xL) (σ : CS), ∀ res, k_World_dropLetter_b23  σ = some res → cR E (cQx [14]) pF (d + 10) kT190 14 2 none none res g σ (23, lv, []) := by
  intro g lv σ res h
  unfold k_World_dropLetter_b23 at h
  cases h
  exact cR_end lk190_23 rfl rfl rfl
def k_World_dropLetter_b0  (σ : CS) (l0 : Nat) (l1 : Int32) : Option (CS) :=
  (k_World_hasLetter σ l0 l1).bind fun p1 =>
  if xc0 .eq p1 = true then (
    k_World_dropLetter_b23  σ
  ) else (
    (clrem σ 14 l0 15 l1).bind fun p6 =>
    (k_World_lose p6.2 l0 p6.1).bind fun p8 =>
    k_World_dropLetter_b23  p8
  )
set_option maxRecDepth 4000 in
theorem k_World_dropLetter_b0_ok {E : CE} {pF : Nat → List Value → xH → Option (Option Value × xH)} (hp0 : xNPc pF) (hL : lcAll E pF) (hF : lcF pF) {d : Nat}   : ∀ (g : CG) (lv : xL) (σ : CS) (l0 : Nat) (l1 : Int32), (cob σ 14 l0) → (xg lv 0 = some (.ref (coa E 14 l0))) → (xg lv 1 = some (.int l1)) → ∀ res, k_World_dropLetter_b0  σ l0 l1 = some res → cR E (cQx [14]) pF (d + 10) kT190 14 2 none none res g σ (0, lv, []) := by
  intro g lv σ l0 l1 bl0 g0 g1 res h
  unfold k_World_dropLetter_b0 at h
  refine cR_lift (fun _ _ kk => eE_aload_n lk190_0 g0 kk) ?_
  refine cR_lift (fun _ _ kk => eE_iload_n lk190_1 g1 kk) ?_
  obtain ⟨p1, h2, h⟩ := Option.bind_eq_some_iff.mp h
  refine cR_virt (cl := 14) (i := l0) (as := [.int l1]) lk190_2 mr_14_133 na_193 rfl rfl (by first | exact Nat.le_of_ble_eq_true rfl | (simp [xcat, cvo_cat, cat_i, cat_j, cat_r]; done)) wv_193 wc_193 bl0 (k_World_hasLetter_ok hp0 hL hF (d := d + 0) bl0 h2) (fun m3  => ?_)
  refine cR_if (t := 23) lk190_5 (by decide) (fun c4 => ?_) (fun c4 => ?_)
  · rw [if_pos c4] at h
    exact k_World_dropLetter_b23_ok hp0 hL hF  g lv σ  _ h
  · rw [if_neg c4] at h
    refine cR_lift (fun _ _ kk => eE_aload_n lk190_8 g0 kk) ?_
    refine cR_lift (fun _ _ kk => eE_aload_n lk190_9 g0 kk) ?_
    refine cR_getA lk190_10 rf_14_31 (by decide) bl0 ?_
    refine cR_lift (fun _ _ kk => eE_iload_n lk190_13 g1 kk) ?_
    obtain ⟨p6, h7, h⟩ := Option.bind_eq_some_iff.mp h
    refine cR_rep (fun _ hc => clrem_lt hc h7) (fun b5 => ?_)
    refine cR_virtL (cl := 14) (i := l0) (f := 15) (c1 := p6.2) (r := some (.ref p6.1)) (as := [.int l1]) lk190_14 mr_14_59 na_13 rfl rfl (by first | exact Nat.le_of_ble_eq_true rfl | (simp [xcat, cvo_cat, cat_i, cat_j, cat_r]; done)) wv_13 wc_13 rfl bl0 ((hL (d + 1)).2.2.2.2.2.1 E g _ 14 l0 15 _ p6.1 p6.2 rfl bl0 h7) (fun _ => ?_)
    refine cR_cast lk190_17 xk_14_52 b5 ?_
    obtain ⟨p8, h9, h⟩ := Option.bind_eq_some_iff.mp h
    refine cR_virtG (by exact cQx_sub rfl) (cl := 14) (i := l0) (as := [.ref (coa E 8 p6.1)]) lk190_20 mr_14_73 na_198 rfl rfl (by first | exact Nat.le_of_ble_eq_true rfl | (simp [xcat, cvo_cat, cat_i, cat_j, cat_r]; done)) wv_198 wc_198 (cob_any rfl bl0) (k_World_lose_ok hp0 hL hF (d := d + 0) (cob_any rfl bl0) b5 h9) (fun m10 g_11 g_11e => ?_)
    exact k_World_dropLetter_b23_ok hp0 hL hF  g_11 lv p8  _ h
def k_World_dropLetter (σ : CS) (l0 : Nat) (l1 : Int32) : Option (CS) := k_World_dropLetter_b0 σ l0 l1
theorem k_World_dropLetter_ok {E : CE} {pF : Nat → List Value → xH → Option (Option Value × xH)} (hp0 : xNPc pF) (hL : lcAll E pF) (hF : lcF pF) {d : Nat} {g : CG} {σ : CS} {l0 : Nat} {l1 : Int32} {res : CS} (bl0 : cob σ 14 l0) (h : k_World_dropLetter σ l0 l1 = some res) : cCo E (cQx [14]) pF (d + 11) 190 [.ref (coa E 14 l0), .int l1] none res g σ :=
  cCo_R kk_190 mo_190 ni_190 xm_190 (Nat.le_of_ble_eq_true rfl) (hp0 190 (by decide) _) (k_World_dropLetter_b0_ok hp0 hL hF g _ σ l0 l1 bl0 rfl rfl _ h)
/-! k_World_firstBell (191), depth 1 -/
def k_World_firstBell_b72 (F : Nat) (K4 : CS → Nat → Int32 → Int32 → Option (Int32)) (σ : CS) (l0 : Nat) (l1 : Int32) (l2 : Int32) : Option (Int32) :=
  K4 σ l0 l1 (l2 + (1 : Int32))
set_option maxRecDepth 4000 in
theorem k_World_firstBell_b72_ok {E : CE} {pF : Nat → List Value → xH → Option (Option Value × xH)} (hp0 : xNPc pF) (hL : lcAll E pF) (hF : lcF pF) {d : Nat} {F : Nat} {K4 : CS → Nat → Int32 → Int32 → Option (Int32)} (hK4 : ∀ (g : CG) (lv : xL) (σ : CS) (l0 : Nat) (l1 : Int32) (l2 : Int32), (cob σ 14 l0) → (xg lv 0 = some (.ref (coa E 14 l0))) → (xg lv 1 = some (.int l1)) → (xg lv 2 = some (.int l2)) → ∀ res, K4 σ l0 l1 l2 = some res → cR E cQ1 pF (d + 0) kT191 14 3 (some FieldType.int) (some (.int res)) σ g σ (4, lv, [])) : ∀ (g : CG) (lv : xL) (σ : CS) (l0 : Nat) (l1 : Int32) (l2 : Int32), (cob σ 14 l0) → (xg lv 0 = some (.ref (coa E 14 l0))) → (xg lv 1 = some (.int l1)) → (xg lv 2 = some (.int l2)) → ∀ res, k_World_firstBell_b72 F K4 σ l0 l1 l2 = some res → cR E cQ1 pF (d + 0) kT191 14 3 (some FieldType.int) (some (.int res)) σ g σ (72, lv, []) := by
  intro g lv σ l0 l1 l2 bl0 g0 g1 g2 res h
  unfold k_World_firstBell_b72 at h
  refine cR_inc (j := 2) (v := l2 + (1 : Int32)) lk191_72 g2 rfl (by decide) (fun vq1 gq2 kq3 => ?_)
  have gq4 := kq3 0 _ (by decide) (fun e => absurd e (by decide)) g0
  have gq5 := kq3 1 _ (by decide) (fun _ => rfl) g1
  refine cR_lift (fun _ _ kk => eE_goto (t := 4) lk191_75 (by decide) kk) ?_
  exact hK4 g vq1 σ l0 l1 (l2 + (1 : Int32)) bl0 gq4 gq5 gq2 _ h
def k_World_firstBell_b70 (F : Nat) (K4 : CS → Nat → Int32 → Int32 → Option (Int32)) (σ : CS) (l0 : Nat) (l2 : Int32) : Option (Int32) :=
  k_World_firstBell_b72 F K4 σ l0 l2 l2
set_option maxRecDepth 4000 in
theorem k_World_firstBell_b70_ok {E : CE} {pF : Nat → List Value → xH → Option (Option Value × xH)} (hp0 : xNPc pF) (hL : lcAll E pF) (hF : lcF pF) {d : Nat} {F : Nat} {K4 : CS → Nat → Int32 → Int32 → Option (Int32)} (hK4 : ∀ (g : CG) (lv : xL) (σ : CS) (l0 : Nat) (l1 : Int32) (l2 : Int32), (cob σ 14 l0) → (xg lv 0 = some (.ref (coa E 14 l0))) → (xg lv 1 = some (.int l1)) → (xg lv 2 = some (.int l2)) → ∀ res, K4 σ l0 l1 l2 = some res → cR E cQ1 pF (d + 0) kT191 14 3 (some FieldType.int) (some (.int res)) σ g σ (4, lv, [])) : ∀ (g : CG) (lv : xL) (σ : CS) (l0 : Nat) (l2 : Int32), (cob σ 14 l0) → (xg lv 0 = some (.ref (coa E 14 l0))) → (xg lv 2 = some (.int l2)) → ∀ res, k_World_firstBell_b70 F K4 σ l0 l2 = some res → cR E cQ1 pF (d + 0) kT191 14 3 (some FieldType.int) (some (.int res)) σ g σ (70, lv, []) := by
  intro g lv σ l0 l2 bl0 g0 g2 res h
  unfold k_World_firstBell_b70 at h
  refine cR_lift (fun _ _ kk => eE_iload_n lk191_70 g2 kk) ?_
  refine cR_stI (j := 1) lk191_71 (Or.inr ⟨_, rfl, rfl⟩) (by decide) (fun vq6 gq7 kq8 => ?_)
  have gq9 := kq8 0 _ (by decide) (fun _ => rfl) g0
  have gq10 := kq8 2 _ (by decide) (fun e => absurd e (by decide)) g2
  exact k_World_firstBell_b72_ok hp0 hL hF hK4 g vq6 σ l0 l2 l2 bl0 gq9 gq7 gq10 _ h
def k_World_firstBell_b4 (F : Nat)  : Nat → CS → Nat → Int32 → Int32 → Option (Int32)
  | 0, _, _, _, _ => none
  | n + 1, σ, l0, l1, l2 =>
    let KK := k_World_firstBell_b4 F  n
    if xc2 .ge l2 ((23 : Int32)) = true then (
      some l1
    ) else (
      (crd σ 14 l0 10 l2).bind fun x12 =>
      if xc2 .eq x12 ((-1 : Int32)) = true then (
        k_World_firstBell_b72 F KK σ l0 l1 l2
      ) else (
        if xc2 .eq l1 ((-1 : Int32)) = true then (
          k_World_firstBell_b70 F KK σ l0 l2
        ) else (
          (crd σ 14 l0 10 l2).bind fun x16 =>
          (crd σ 14 l0 10 l1).bind fun x18 =>
          if xc2 .lt x16 x18 = true then (
            k_World_firstBell_b70 F KK σ l0 l2
          ) else (
            (crd σ 14 l0 10 l2).bind fun x21 =>
            (crd σ 14 l0 10 l1).bind fun x23 =>
            if xc2 .ne x21 x23 = true then (
              k_World_firstBell_b72 F KK σ l0 l1 l2
            ) else (
              (crd σ 14 l0 11 l2).bind fun x26 =>
              (crd σ 14 l0 11 l1).bind fun x28 =>
              if xc2 .ge x26 x28 = true then (
                k_World_firstBell_b72 F KK σ l0 l1 l2
              ) else (
                k_World_firstBell_b70 F KK σ l0 l2
              )
            )
          )
        )
      )
    )
set_option maxRecDepth 4000 in
theorem k_World_firstBell_b4_ok {E : CE} {pF : Nat → List Value → xH → Option (Option Value × xH)} (hp0 : xNPc pF) (hL : lcAll E pF) (hF : lcF pF) {d : Nat} {F : Nat}   : ∀ (n : Nat) (g : CG) (lv : xL) (σ : CS) (l0 : Nat) (l1 : Int32) (l2 : Int32), (cob σ 14 l0) → (xg lv 0 = some (.ref (coa E 14 l0))) → (xg lv 1 = some (.int l1)) → (xg lv 2 = some (.int l2)) → ∀ res, k_World_firstBell_b4 F  n σ l0 l1 l2 = some res → cR E cQ1 pF (d + 0) kT191 14 3 (some FieldType.int) (some (.int res)) σ g σ (4, lv, []) := by
  intro n
  induction n with
  | zero => intro g lv σ l0 l1 l2 bl0 g0 g1 g2 res h; simp [k_World_firstBell_b4] at h
  | succ n hKK =>
    intro g lv σ l0 l1 l2 bl0 g0 g1 g2 res h
    unfold k_World_firstBell_b4 at h
    dsimp only at h
    refine cR_lift (fun _ _ kk => eE_iload_n lk191_4 g2 kk) ?_
    refine cR_lift (fun _ _ kk => eE_bipush (v := 23) lk191_5 (by decide) kk) ?_
    refine cR_icmp (t := 78) lk191_7 (by decide) (fun c11 => ?_) (fun c11 => ?_)
    · rw [if_pos c11] at h
      refine cR_lift (fun _ _ kk => eE_iload_n lk191_78 g1 kk) ?_
      cases h
      exact cR_end lk191_79 rfl rfl rfl
    · rw [if_neg c11] at h
      refine cR_lift (fun _ _ kk => eE_aload_n lk191_10 g0 kk) ?_
      refine cR_getA lk191_11 rf_14_9 (by decide) bl0 ?_
      refine cR_lift (fun _ _ kk => eE_iload_n lk191_14 g2 kk) ?_
      obtain ⟨x12, h13, h⟩ := Option.bind_eq_some_iff.mp h
      refine cR_iald (cl := 14) (i := l0) (f := 10) lk191_15 (by decide) rfl bl0 h13 ?_
      refine cR_lift (fun _ _ kk => eE_iconst (v := (-1)) lk191_16 (by decide) kk) ?_
      refine cR_icmp (t := 72) lk191_17 (by decide) (fun c14 => ?_) (fun c14 => ?_)
      · rw [if_pos c14] at h
        exact k_World_firstBell_b72_ok hp0 hL hF hKK g lv σ l0 l1 l2 bl0 g0 g1 g2 _ h
      · rw [if_neg c14] at h
        refine cR_lift (fun _ _ kk => eE_iload_n lk191_20 g1 kk) ?_
        refine cR_lift (fun _ _ kk => eE_iconst (v := (-1)) lk191_21 (by decide) kk) ?_
        refine cR_icmp (t := 70) lk191_22 (by decide) (fun c15 => ?_) (fun c15 => ?_)
        · rw [if_pos c15] at h
          exact k_World_firstBell_b70_ok hp0 hL hF hKK g lv σ l0 l2 bl0 g0 g2 _ h
        · rw [if_neg c15] at h
          refine cR_lift (fun _ _ kk => eE_aload_n lk191_25 g0 kk) ?_
          refine cR_getA lk191_26 rf_14_9 (by decide) bl0 ?_
          refine cR_lift (fun _ _ kk => eE_iload_n lk191_29 g2 kk) ?_
          obtain ⟨x16, h17, h⟩ := Option.bind_eq_some_iff.mp h
          refine cR_iald (cl := 14) (i := l0) (f := 10) lk191_30 (by decide) rfl bl0 h17 ?_
          refine cR_lift (fun _ _ kk => eE_aload_n lk191_31 g0 kk) ?_
          refine cR_getA lk191_32 rf_14_9 (by decide) bl0 ?_
          refine cR_lift (fun _ _ kk => eE_iload_n lk191_35 g1 kk) ?_
          obtain ⟨x18, h19, h⟩ := Option.bind_eq_some_iff.mp h
          refine cR_iald (cl := 14) (i := l0) (f := 10) lk191_36 (by decide) rfl bl0 h19 ?_
          refine cR_icmp (t := 70) lk191_37 (by decide) (fun c20 => ?_) (fun c20 => ?_)
          · rw [if_pos c20] at h
            exact k_World_firstBell_b70_ok hp0 hL hF hKK g lv σ l0 l2 bl0 g0 g2 _ h
          · rw [if_neg c20] at h
            refine cR_lift (fun _ _ kk => eE_aload_n lk191_40 g0 kk) ?_
            refine cR_getA lk191_41 rf_14_9 (by decide) bl0 ?_
            refine cR_lift (fun _ _ kk => eE_iload_n lk191_44 g2 kk) ?_
            obtain ⟨x21, h22, h⟩ := Option.bind_eq_some_iff.mp h
            refine cR_iald (cl := 14) (i := l0) (f := 10) lk191_45 (by decide) rfl bl0 h22 ?_
            refine cR_lift (fun _ _ kk => eE_aload_n lk191_46 g0 kk) ?_
            refine cR_getA lk191_47 rf_14_9 (by decide) bl0 ?_
            refine cR_lift (fun _ _ kk => eE_iload_n lk191_50 g1 kk) ?_
            obtain ⟨x23, h24, h⟩ := Option.bind_eq_some_iff.mp h
            refine cR_iald (cl := 14) (i := l0) (f := 10) lk191_51 (by decide) rfl bl0 h24 ?_
            refine cR_icmp (t := 72) lk191_52 (by decide) (fun c25 => ?_) (fun c25 => ?_)
            · rw [if_pos c25] at h
              exact k_World_firstBell_b72_ok hp0 hL hF hKK g lv σ l0 l1 l2 bl0 g0 g1 g2 _ h
            · rw [if_neg c25] at h
              refine cR_lift (fun _ _ kk => eE_aload_n lk191_55 g0 kk) ?_
              refine cR_getA lk191_56 rf_14_15 (by decide) bl0 ?_
              refine cR_lift (fun _ _ kk => eE_iload_n lk191_59 g2 kk) ?_
              obtain ⟨x26, h27, h⟩ := Option.bind_eq_some_iff.mp h
              refine cR_iald (cl := 14) (i := l0) (f := 11) lk191_60 (by decide) rfl bl0 h27 ?_
              refine cR_lift (fun _ _ kk => eE_aload_n lk191_61 g0 kk) ?_
              refine cR_getA lk191_62 rf_14_15 (by decide) bl0 ?_
              refine cR_lift (fun _ _ kk => eE_iload_n lk191_65 g1 kk) ?_
              obtain ⟨x28, h29, h⟩ := Option.bind_eq_some_iff.mp h
              refine cR_iald (cl := 14) (i := l0) (f := 11) lk191_66 (by decide) rfl bl0 h29 ?_
              refine cR_icmp (t := 72) lk191_67 (by decide) (fun c30 => ?_) (fun c30 => ?_)
              · rw [if_pos c30] at h
                exact k_World_firstBell_b72_ok hp0 hL hF hKK g lv σ l0 l1 l2 bl0 g0 g1 g2 _ h
              · rw [if_neg c30] at h
                exact k_World_firstBell_b70_ok hp0 hL hF hKK g lv σ l0 l2 bl0 g0 g2 _ h
def k_World_firstBell_b0 (F : Nat)  (σ : CS) (l0 : Nat) : Option (Int32) :=
  k_World_firstBell_b4 F  F σ l0 ((-1 : Int32)) ((0 : Int32))
set_option maxRecDepth 4000 in
theorem k_World_firstBell_b0_ok {E : CE} {pF : Nat → List Value → xH → Option (Option Value × xH)} (hp0 : xNPc pF) (hL : lcAll E pF) (hF : lcF pF) {d : Nat} {F : Nat}   : ∀ (g : CG) (lv : xL) (σ : CS) (l0 : Nat), (cob σ 14 l0) → (xg lv 0 = some (.ref (coa E 14 l0))) → ∀ res, k_World_firstBell_b0 F  σ l0 = some res → cR E cQ1 pF (d + 0) kT191 14 3 (some FieldType.int) (some (.int res)) σ g σ (0, lv, []) := by
  intro g lv σ l0 bl0 g0 res h
  unfold k_World_firstBell_b0 at h
  refine cR_lift (fun _ _ kk => eE_iconst (v := (-1)) lk191_0 (by decide) kk) ?_
  refine cR_stI (j := 1) lk191_1 (Or.inr ⟨_, rfl, rfl⟩) (by decide) (fun vq31 gq32 kq33 => ?_)
  have gq34 := kq33 0 _ (by decide) (fun _ => rfl) g0
  refine cR_lift (fun _ _ kk => eE_iconst (v := 0) lk191_2 (by decide) kk) ?_
  refine cR_stI (j := 2) lk191_3 (Or.inr ⟨_, rfl, rfl⟩) (by decide) (fun vq35 gq36 kq37 => ?_)
  have gq38 := kq37 0 _ (by decide) (fun e => absurd e (by decide)) gq34
  have gq39 := kq37 1 _ (by decide) (fun _ => rfl) gq32
  exact k_World_firstBell_b4_ok hp0 hL hF  F g vq35 σ l0 ((-1 : Int32)) ((0 : Int32)) bl0 gq38 gq39 gq36 _ h
def k_World_firstBell (F : Nat) (σ : CS) (l0 : Nat) : Option (Int32) := k_World_firstBell_b0 F σ l0
theorem k_World_firstBell_ok {E : CE} {pF : Nat → List Value → xH → Option (Option Value × xH)} (hp0 : xNPc pF) (hL : lcAll E pF) (hF : lcF pF) {d : Nat} {g : CG} {σ : CS} {F : Nat} {l0 : Nat} {res : Int32} (bl0 : cob σ 14 l0) (h : k_World_firstBell F σ l0 = some res) : cCo E cQ1 pF (d + 1) 191 [.ref (coa E 14 l0)] (some (.int res)) σ g σ :=
  cCo_R kk_191 mo_191 ni_191 xm_191 (Nat.le_of_ble_eq_true rfl) (hp0 191 (by decide) _) (k_World_firstBell_b0_ok hp0 hL hF g _ σ l0 bl0 rfl _ h)
/-! k_World_firstLetter (192), depth 10 -/
def k_World_firstLetter_b25  (σ : CS) (s0 : Option Nat) : Option (Option Nat) :=
  some s0
set_option maxRecDepth 4000 in
theorem k_World_firstLetter_b25_ok {E : CE} {pF : Nat → List Value → xH → Option (Option Value × xH)} (hp0 : xNPc pF) (hL : lcAll E pF) (hF : lcF pF) {d : Nat}   : ∀ (g : CG) (lv : xL) (σ : CS) (s0 : Option Nat), (∀ a, s0 = some a → cob σ 8 a) → ∀ res, k_World_firstLetter_b25  σ s0 = some res → cR E cQ1 pF (d + 9) kT192 14 1 (some (FieldType.object "AgreedStore$Letter")) (some (cvo res)) σ g σ (25, lv, [cvo s0]) := by
  intro g lv σ s0 bs0 res h
  unfold k_World_firstLetter_b25 at h
  cases h
  exact cR_end lk192_25 rfl rfl (by first | rfl | (cases s0 <;> rfl))
def k_World_firstLetter_b0  (σ : CS) (l0 : Nat) : Option (Option Nat) :=
  if xc0 .eq (clemp σ 14 l0 15) = true then (
    (clget σ 14 l0 15 ((0 : Int32))).bind fun a3 =>
    k_World_firstLetter_b25  σ (some a3)
  ) else (
    k_World_firstLetter_b25  σ none
  )
set_option maxRecDepth 4000 in
theorem k_World_firstLetter_b0_ok {E : CE} {pF : Nat → List Value → xH → Option (Option Value × xH)} (hp0 : xNPc pF) (hL : lcAll E pF) (hF : lcF pF) {d : Nat}   : ∀ (g : CG) (lv : xL) (σ : CS) (l0 : Nat), (cob σ 14 l0) → (xg lv 0 = some (.ref (coa E 14 l0))) → ∀ res, k_World_firstLetter_b0  σ l0 = some res → cR E cQ1 pF (d + 9) kT192 14 1 (some (FieldType.object "AgreedStore$Letter")) (some (cvo res)) σ g σ (0, lv, []) := by
  intro g lv σ l0 bl0 g0 res h
  unfold k_World_firstLetter_b0 at h
  refine cR_lift (fun _ _ kk => eE_aload_n lk192_0 g0 kk) ?_
  refine cR_getA lk192_1 rf_14_31 (by decide) bl0 ?_
  refine cR_virtL (cl := 14) (i := l0) (f := 15) (as := []) lk192_4 mr_14_48 na_10 rfl rfl (by first | exact Nat.le_of_ble_eq_true rfl | (simp [xcat, cvo_cat, cat_i, cat_j, cat_r]; done)) wv_10 wc_10 rfl bl0 ((hL (d + 0)).2.1 E g _ 14 l0 15 rfl bl0) (fun _ => ?_)
  refine cR_if (t := 14) lk192_7 (by decide) (fun c1 => ?_) (fun c1 => ?_)
  · rw [if_pos c1] at h
    refine cR_lift (fun _ _ kk => eE_aload_n lk192_14 g0 kk) ?_
    refine cR_getA lk192_15 rf_14_31 (by decide) bl0 ?_
    refine cR_lift (fun _ _ kk => eE_iconst (v := 0) lk192_18 (by decide) kk) ?_
    obtain ⟨a3, h4, h⟩ := Option.bind_eq_some_iff.mp h
    refine cR_rep (fun _ hc => cob8 (clget_lt hc h4)) (fun b2 => ?_)
    refine cR_virtL (cl := 14) (i := l0) (f := 15) (as := [.int ((0 : Int32))]) lk192_19 mr_14_127 na_6 rfl rfl (by first | exact Nat.le_of_ble_eq_true rfl | (simp [xcat, cvo_cat, cat_i, cat_j, cat_r]; done)) wv_6 wc_6 rfl bl0 ((hL (d + 0)).2.2.1 E g _ 14 l0 15 _ _ rfl bl0 h4) (fun _ => ?_)
    refine cR_cast lk192_22 xk_14_52 b2 ?_
    exact k_World_firstLetter_b25_ok hp0 hL hF  g lv σ (some a3) (fun _ e => Option.some.inj e ▸ b2) _ h
  · rw [if_neg c1] at h
    refine cR_null lk192_10 ?_
    refine cR_lift (fun _ _ kk => eE_goto (t := 25) lk192_11 (by decide) kk) ?_
    exact k_World_firstLetter_b25_ok hp0 hL hF  g lv σ none (fun _ e => nomatch e) _ h
def k_World_firstLetter (σ : CS) (l0 : Nat) : Option (Option Nat) := k_World_firstLetter_b0 σ l0
theorem k_World_firstLetter_ok {E : CE} {pF : Nat → List Value → xH → Option (Option Value × xH)} (hp0 : xNPc pF) (hL : lcAll E pF) (hF : lcF pF) {d : Nat} {g : CG} {σ : CS} {l0 : Nat} {res : Option Nat} (bl0 : cob σ 14 l0) (h : k_World_firstLetter σ l0 = some res) : cCo E cQ1 pF (d + 10) 192 [.ref (coa E 14 l0)] (some (cvo res)) σ g σ :=
  cCo_R kk_192 mo_192 ni_192 xm_192 (Nat.le_of_ble_eq_true rfl) (hp0 192 (by decide) _) (k_World_firstLetter_b0_ok hp0 hL hF g _ σ l0 bl0 rfl _ h)
theorem k_World_firstLetter_lt {E : CE} {g : CG} {σ : CS} {h0 : xH} {l0 : Nat} {res : Option Nat} (hc : CRep E g σ h0) (_ : cob σ 14 l0) (h : k_World_firstLetter σ l0 = some res) : ∀ a, res = some a → cob σ 8 a := by
  intro a ea
  subst ea
  unfold k_World_firstLetter k_World_firstLetter_b0 at h
  split at h
  · obtain ⟨x, hx, h⟩ := Option.bind_eq_some_iff.mp h
    unfold k_World_firstLetter_b25 at h
    cases h
    exact cob8 (clget_lt hc hx)
  · unfold k_World_firstLetter_b25 at h
    cases h
/-! k_World_isBefore (196), depth 1 -/
def k_World_isBefore_b44  (σ : CS) (s0 : Int32) : Option (Int32) :=
  if s0 = 0 ∨ s0 = 1 then some s0 else none
set_option maxRecDepth 4000 in
theorem k_World_isBefore_b44_ok {E : CE} {pF : Nat → List Value → xH → Option (Option Value × xH)} (hp0 : xNPc pF) (hL : lcAll E pF) (hF : lcF pF) {d : Nat}   : ∀ (g : CG) (lv : xL) (σ : CS) (s0 : Int32), ∀ res, k_World_isBefore_b44  σ s0 = some res → cR E cQ1 pF (d + 0) kT196 14 3 (some FieldType.boolean) (some (.int res)) σ g σ (44, lv, [.int s0]) := by
  intro g lv σ s0 res h
  unfold k_World_isBefore_b44 at h
  by_cases z1 : s0 = 0 ∨ s0 = 1
  · rw [if_pos z1] at h; cases h
    exact cR_end lk196_44 rfl rfl (by first | (simp only [xfin, if_true, if_pos z1]; done) | simp [xfin, z1])
  · rw [if_neg z1] at h; cases h
def k_World_isBefore_b39  (σ : CS) : Option (Int32) :=
  k_World_isBefore_b44  σ ((1 : Int32))
set_option maxRecDepth 4000 in
theorem k_World_isBefore_b39_ok {E : CE} {pF : Nat → List Value → xH → Option (Option Value × xH)} (hp0 : xNPc pF) (hL : lcAll E pF) (hF : lcF pF) {d : Nat}   : ∀ (g : CG) (lv : xL) (σ : CS), ∀ res, k_World_isBefore_b39  σ = some res → cR E cQ1 pF (d + 0) kT196 14 3 (some FieldType.boolean) (some (.int res)) σ g σ (39, lv, []) := by
  intro g lv σ res h
  unfold k_World_isBefore_b39 at h
  refine cR_lift (fun _ _ kk => eE_iconst (v := 1) lk196_39 (by decide) kk) ?_
  refine cR_lift (fun _ _ kk => eE_goto (t := 44) lk196_40 (by decide) kk) ?_
  exact k_World_isBefore_b44_ok hp0 hL hF  g lv σ ((1 : Int32))  _ h
def k_World_isBefore_b43  (σ : CS) : Option (Int32) :=
  k_World_isBefore_b44  σ ((0 : Int32))
set_option maxRecDepth 4000 in
theorem k_World_isBefore_b43_ok {E : CE} {pF : Nat → List Value → xH → Option (Option Value × xH)} (hp0 : xNPc pF) (hL : lcAll E pF) (hF : lcF pF) {d : Nat}   : ∀ (g : CG) (lv : xL) (σ : CS), ∀ res, k_World_isBefore_b43  σ = some res → cR E cQ1 pF (d + 0) kT196 14 3 (some FieldType.boolean) (some (.int res)) σ g σ (43, lv, []) := by
  intro g lv σ res h
  unfold k_World_isBefore_b43 at h
  refine cR_lift (fun _ _ kk => eE_iconst (v := 0) lk196_43 (by decide) kk) ?_
  exact k_World_isBefore_b44_ok hp0 hL hF  g lv σ ((0 : Int32))  _ h
def k_World_isBefore_b0  (σ : CS) (l0 : Nat) (l1 : Nat) (l2 : Int32) : Option (Int32) :=
  (crd σ 14 l0 10 l2).bind fun x2 =>
  if xc2 .lt (cI σ 8 l1 0 0) x2 = true then (
    k_World_isBefore_b39  σ
  ) else (
    (crd σ 14 l0 10 l2).bind fun x5 =>
    if xc2 .ne (cI σ 8 l1 0 0) x5 = true then (
      k_World_isBefore_b43  σ
    ) else (
      (crd σ 14 l0 11 l2).bind fun x8 =>
      if xc2 .ge (cI σ 8 l1 1 0) x8 = true then (
        k_World_isBefore_b43  σ
      ) else (
        k_World_isBefore_b39  σ
      )
    )
  )
set_option maxRecDepth 4000 in
theorem k_World_isBefore_b0_ok {E : CE} {pF : Nat → List Value → xH → Option (Option Value × xH)} (hp0 : xNPc pF) (hL : lcAll E pF) (hF : lcF pF) {d : Nat}   : ∀ (g : CG) (lv : xL) (σ : CS) (l0 : Nat) (l1 : Nat) (l2 : Int32), (cob σ 14 l0) → (cob σ 8 l1) → (xg lv 0 = some (.ref (coa E 14 l0))) → (xg lv 1 = some (.ref (coa E 8 l1))) → (xg lv 2 = some (.int l2)) → ∀ res, k_World_isBefore_b0  σ l0 l1 l2 = some res → cR E cQ1 pF (d + 0) kT196 14 3 (some FieldType.boolean) (some (.int res)) σ g σ (0, lv, []) := by
  intro g lv σ l0 l1 l2 bl0 bl1 g0 g1 g2 res h
  unfold k_World_isBefore_b0 at h
  refine cR_lift (fun _ _ kk => eE_aload_n lk196_0 g1 kk) ?_
  refine cR_getI lk196_1 rf_14_115 rfl bl1 ?_
  refine cR_lift (fun _ _ kk => eE_aload_n lk196_4 g0 kk) ?_
  refine cR_getA lk196_5 rf_14_9 (by decide) bl0 ?_
  refine cR_lift (fun _ _ kk => eE_iload_n lk196_8 g2 kk) ?_
  obtain ⟨x2, h3, h⟩ := Option.bind_eq_some_iff.mp h
  refine cR_iald (cl := 14) (i := l0) (f := 10) lk196_9 (by decide) rfl bl0 h3 ?_
  refine cR_icmp (t := 39) lk196_10 (by decide) (fun c4 => ?_) (fun c4 => ?_)
  · rw [if_pos c4] at h
    exact k_World_isBefore_b39_ok hp0 hL hF  g lv σ  _ h
  · rw [if_neg c4] at h
    refine cR_lift (fun _ _ kk => eE_aload_n lk196_13 g1 kk) ?_
    refine cR_getI lk196_14 rf_14_115 rfl bl1 ?_
    refine cR_lift (fun _ _ kk => eE_aload_n lk196_17 g0 kk) ?_
    refine cR_getA lk196_18 rf_14_9 (by decide) bl0 ?_
    refine cR_lift (fun _ _ kk => eE_iload_n lk196_21 g2 kk) ?_
    obtain ⟨x5, h6, h⟩ := Option.bind_eq_some_iff.mp h
    refine cR_iald (cl := 14) (i := l0) (f := 10) lk196_22 (by decide) rfl bl0 h6 ?_
    refine cR_icmp (t := 43) lk196_23 (by decide) (fun c7 => ?_) (fun c7 => ?_)
    · rw [if_pos c7] at h
      exact k_World_isBefore_b43_ok hp0 hL hF  g lv σ  _ h
    · rw [if_neg c7] at h
      refine cR_lift (fun _ _ kk => eE_aload_n lk196_26 g1 kk) ?_
      refine cR_getI lk196_27 rf_14_121 rfl bl1 ?_
      refine cR_lift (fun _ _ kk => eE_aload_n lk196_30 g0 kk) ?_
      refine cR_getA lk196_31 rf_14_15 (by decide) bl0 ?_
      refine cR_lift (fun _ _ kk => eE_iload_n lk196_34 g2 kk) ?_
      obtain ⟨x8, h9, h⟩ := Option.bind_eq_some_iff.mp h
      refine cR_iald (cl := 14) (i := l0) (f := 11) lk196_35 (by decide) rfl bl0 h9 ?_
      refine cR_icmp (t := 43) lk196_36 (by decide) (fun c10 => ?_) (fun c10 => ?_)
      · rw [if_pos c10] at h
        exact k_World_isBefore_b43_ok hp0 hL hF  g lv σ  _ h
      · rw [if_neg c10] at h
        exact k_World_isBefore_b39_ok hp0 hL hF  g lv σ  _ h
def k_World_isBefore (σ : CS) (l0 : Nat) (l1 : Nat) (l2 : Int32) : Option (Int32) := k_World_isBefore_b0 σ l0 l1 l2
theorem k_World_isBefore_ok {E : CE} {pF : Nat → List Value → xH → Option (Option Value × xH)} (hp0 : xNPc pF) (hL : lcAll E pF) (hF : lcF pF) {d : Nat} {g : CG} {σ : CS} {l0 : Nat} {l1 : Nat} {l2 : Int32} {res : Int32} (bl0 : cob σ 14 l0) (bl1 : cob σ 8 l1) (h : k_World_isBefore σ l0 l1 l2 = some res) : cCo E cQ1 pF (d + 1) 196 [.ref (coa E 14 l0), .ref (coa E 8 l1), .int l2] (some (.int res)) σ g σ :=
  cCo_R kk_196 mo_196 ni_196 xm_196 (Nat.le_of_ble_eq_true rfl) (hp0 196 (by decide) _) (k_World_isBefore_b0_ok hp0 hL hF g _ σ l0 l1 l2 bl0 bl1 rfl rfl rfl _ h)
/-! k_World_takeBell (201), depth 2 -/
def k_World_takeBell_b0  (σ : CS) (l0 : Nat) (l1 : Int32) : Option (CS) :=
  (crd σ 14 l0 10 l1).bind fun x1 =>
  (some (csI σ 14 l0 0 0 x1)).bind fun σ3 =>
  (some (csI σ3 14 l0 2 0 ((cI σ3 14 l0 2 0) + ((1 : Int32))))).bind fun σ5 =>
  (k_World_hush σ5 l0 l1).bind fun p7 =>
  some p7
set_option maxRecDepth 4000 in
theorem k_World_takeBell_b0_ok {E : CE} {pF : Nat → List Value → xH → Option (Option Value × xH)} (hp0 : xNPc pF) (hL : lcAll E pF) (hF : lcF pF) {d : Nat}   : ∀ (g : CG) (lv : xL) (σ : CS) (l0 : Nat) (l1 : Int32), (cob σ 14 l0) → (xg lv 0 = some (.ref (coa E 14 l0))) → (xg lv 1 = some (.int l1)) → ∀ res, k_World_takeBell_b0  σ l0 l1 = some res → cR E cQ1 pF (d + 1) kT201 14 2 none none res g σ (0, lv, []) := by
  intro g lv σ l0 l1 bl0 g0 g1 res h
  unfold k_World_takeBell_b0 at h
  refine cR_lift (fun _ _ kk => eE_aload_n lk201_0 g0 kk) ?_
  refine cR_lift (fun _ _ kk => eE_aload_n lk201_1 g0 kk) ?_
  refine cR_getA lk201_2 rf_14_9 (by decide) bl0 ?_
  refine cR_lift (fun _ _ kk => eE_iload_n lk201_5 g1 kk) ?_
  obtain ⟨x1, h2, h⟩ := Option.bind_eq_some_iff.mp h
  refine cR_iald (cl := 14) (i := l0) (f := 10) lk201_6 (by decide) rfl bl0 h2 ?_
  obtain ⟨σ3, h4, h⟩ := Option.bind_eq_some_iff.mp h
  refine cR_putI lk201_7 rf_14_77 rfl bl0 pf_14_0 rfl h4 ?_
  refine cR_lift (fun _ _ kk => eE_aload_n lk201_10 g0 kk) ?_
  refine cR_lift (fun _ _ kk => eE_dup lk201_11 rfl kk) ?_
  refine cR_getI lk201_12 rf_14_141 rfl (cob_any rfl bl0) ?_
  refine cR_lift (fun _ _ kk => eE_iconst (v := 1) lk201_15 (by decide) kk) ?_
  refine cR_lift (fun _ _ kk => eE_iadd lk201_16 kk) ?_
  obtain ⟨σ5, h6, h⟩ := Option.bind_eq_some_iff.mp h
  refine cR_putI lk201_17 rf_14_141 rfl (cob_any rfl bl0) pf_14_2 rfl h6 ?_
  refine cR_lift (fun _ _ kk => eE_aload_n lk201_20 g0 kk) ?_
  refine cR_lift (fun _ _ kk => eE_iload_n lk201_21 g1 kk) ?_
  obtain ⟨p7, h8, h⟩ := Option.bind_eq_some_iff.mp h
  refine cR_virt (cl := 14) (i := l0) (as := [.int l1]) lk201_22 mr_14_144 na_194 rfl rfl (by first | exact Nat.le_of_ble_eq_true rfl | (simp [xcat, cvo_cat, cat_i, cat_j, cat_r]; done)) wv_194 wc_194 (cob_any rfl bl0) (k_World_hush_ok hp0 hL hF (d := d + 0) (cob_any rfl bl0) h8) (fun m9  => ?_)
  cases h
  exact cR_end lk201_25 rfl rfl rfl
def k_World_takeBell (σ : CS) (l0 : Nat) (l1 : Int32) : Option (CS) := k_World_takeBell_b0 σ l0 l1
theorem k_World_takeBell_ok {E : CE} {pF : Nat → List Value → xH → Option (Option Value × xH)} (hp0 : xNPc pF) (hL : lcAll E pF) (hF : lcF pF) {d : Nat} {g : CG} {σ : CS} {l0 : Nat} {l1 : Int32} {res : CS} (bl0 : cob σ 14 l0) (h : k_World_takeBell σ l0 l1 = some res) : cCo E cQ1 pF (d + 2) 201 [.ref (coa E 14 l0), .int l1] none res g σ :=
  cCo_R kk_201 mo_201 ni_201 xm_201 (Nat.le_of_ble_eq_true rfl) (hp0 201 (by decide) _) (k_World_takeBell_b0_ok hp0 hL hF g _ σ l0 l1 bl0 rfl rfl _ h)
/-! k_World_takeFirstLetter (202), depth 10 -/
def k_World_takeFirstLetter_b38  (σ : CS) : Option (CS) :=
  some σ
set_option maxRecDepth 4000 in
theorem k_World_takeFirstLetter_b38_ok {E : CE} {pF : Nat → List Value → xH → Option (Option Value × xH)} (hp0 : xNPc pF) (hL : lcAll E pF) (hF : lcF pF) {d : Nat}   : ∀ (g : CG) (lv : xL) (σ : CS), ∀ res, k_World_takeFirstLetter_b38  σ = some res → cR E cQ1 pF (d + 9) kT202 14 1 none none res g σ (38, lv, []) := by
  intro g lv σ res h
  unfold k_World_takeFirstLetter_b38 at h
  cases h
  exact cR_end lk202_38 rfl rfl rfl
def k_World_takeFirstLetter_b0  (σ : CS) (l0 : Nat) : Option (CS) :=
  if xc0 .ne (clemp σ 14 l0 15) = true then (
    k_World_takeFirstLetter_b38  σ
  ) else (
    (clrem σ 14 l0 15 ((0 : Int32))).bind fun p3 =>
    (some (csI p3.2 14 l0 0 0 (cI p3.2 8 p3.1 0 0))).bind fun σ5 =>
    (some (csI σ5 14 l0 2 0 ((cI σ5 14 l0 2 0) + ((1 : Int32))))).bind fun σ7 =>
    k_World_takeFirstLetter_b38  σ7
  )
set_option maxRecDepth 4000 in
theorem k_World_takeFirstLetter_b0_ok {E : CE} {pF : Nat → List Value → xH → Option (Option Value × xH)} (hp0 : xNPc pF) (hL : lcAll E pF) (hF : lcF pF) {d : Nat}   : ∀ (g : CG) (lv : xL) (σ : CS) (l0 : Nat), (cob σ 14 l0) → (xg lv 0 = some (.ref (coa E 14 l0))) → ∀ res, k_World_takeFirstLetter_b0  σ l0 = some res → cR E cQ1 pF (d + 9) kT202 14 1 none none res g σ (0, lv, []) := by
  intro g lv σ l0 bl0 g0 res h
  unfold k_World_takeFirstLetter_b0 at h
  refine cR_lift (fun _ _ kk => eE_aload_n lk202_0 g0 kk) ?_
  refine cR_getA lk202_1 rf_14_31 (by decide) bl0 ?_
  refine cR_virtL (cl := 14) (i := l0) (f := 15) (as := []) lk202_4 mr_14_48 na_10 rfl rfl (by first | exact Nat.le_of_ble_eq_true rfl | (simp [xcat, cvo_cat, cat_i, cat_j, cat_r]; done)) wv_10 wc_10 rfl bl0 ((hL (d + 0)).2.1 E g _ 14 l0 15 rfl bl0) (fun _ => ?_)
  refine cR_if (t := 38) lk202_7 (by decide) (fun c1 => ?_) (fun c1 => ?_)
  · rw [if_pos c1] at h
    exact k_World_takeFirstLetter_b38_ok hp0 hL hF  g lv σ  _ h
  · rw [if_neg c1] at h
    refine cR_lift (fun _ _ kk => eE_aload_n lk202_10 g0 kk) ?_
    refine cR_lift (fun _ _ kk => eE_aload_n lk202_11 g0 kk) ?_
    refine cR_getA lk202_12 rf_14_31 (by decide) bl0 ?_
    refine cR_lift (fun _ _ kk => eE_iconst (v := 0) lk202_15 (by decide) kk) ?_
    obtain ⟨p3, h4, h⟩ := Option.bind_eq_some_iff.mp h
    refine cR_rep (fun _ hc => clrem_lt hc h4) (fun b2 => ?_)
    refine cR_virtL (cl := 14) (i := l0) (f := 15) (c1 := p3.2) (r := some (.ref p3.1)) (as := [.int ((0 : Int32))]) lk202_16 mr_14_59 na_13 rfl rfl (by first | exact Nat.le_of_ble_eq_true rfl | (simp [xcat, cvo_cat, cat_i, cat_j, cat_r]; done)) wv_13 wc_13 rfl bl0 ((hL (d + 0)).2.2.2.2.2.1 E g _ 14 l0 15 _ p3.1 p3.2 rfl bl0 h4) (fun _ => ?_)
    refine cR_cast lk202_19 xk_14_52 b2 ?_
    refine cR_getI lk202_22 rf_14_115 rfl b2 ?_
    obtain ⟨σ5, h6, h⟩ := Option.bind_eq_some_iff.mp h
    refine cR_putI lk202_25 rf_14_77 rfl (cob_any rfl bl0) pf_14_0 rfl h6 ?_
    refine cR_lift (fun _ _ kk => eE_aload_n lk202_28 g0 kk) ?_
    refine cR_lift (fun _ _ kk => eE_dup lk202_29 rfl kk) ?_
    refine cR_getI lk202_30 rf_14_141 rfl (cob_any rfl bl0) ?_
    refine cR_lift (fun _ _ kk => eE_iconst (v := 1) lk202_33 (by decide) kk) ?_
    refine cR_lift (fun _ _ kk => eE_iadd lk202_34 kk) ?_
    obtain ⟨σ7, h8, h⟩ := Option.bind_eq_some_iff.mp h
    refine cR_putI lk202_35 rf_14_141 rfl (cob_any rfl bl0) pf_14_2 rfl h8 ?_
    exact k_World_takeFirstLetter_b38_ok hp0 hL hF  g lv σ7  _ h
def k_World_takeFirstLetter (σ : CS) (l0 : Nat) : Option (CS) := k_World_takeFirstLetter_b0 σ l0
theorem k_World_takeFirstLetter_ok {E : CE} {pF : Nat → List Value → xH → Option (Option Value × xH)} (hp0 : xNPc pF) (hL : lcAll E pF) (hF : lcF pF) {d : Nat} {g : CG} {σ : CS} {l0 : Nat} {res : CS} (bl0 : cob σ 14 l0) (h : k_World_takeFirstLetter σ l0 = some res) : cCo E cQ1 pF (d + 10) 202 [.ref (coa E 14 l0)] none res g σ :=
  cCo_R kk_202 mo_202 ni_202 xm_202 (Nat.le_of_ble_eq_true rfl) (hp0 202 (by decide) _) (k_World_takeFirstLetter_b0_ok hp0 hL hF g _ σ l0 bl0 rfl _ h)
/-! k_Face_happen (217), depth 16 -/
def k_Face_happen_b158 (F : Nat)  (σ : CS) (l0 : Nat) (l2 : Option Nat) (l4 : Int32) : Option ((Int32) × CS) :=
  (l2).bind fun a1 =>
  (cladd σ 14 0 16 a1).bind fun σ4 =>
  some (l4, σ4)
set_option maxRecDepth 4000 in
theorem k_Face_happen_b158_ok {E : CE} {pF : Nat → List Value → xH → Option (Option Value × xH)} (hp0 : xNPc pF) (hL : lcAll E pF) (hF : lcF pF) {d : Nat} {F : Nat}   : ∀ (g : CG) (lv : xL) (σ : CS) (l0 : Nat) (l2 : Option Nat) (l4 : Int32), (cob σ 15 l0) → (∀ a, l2 = some a → cob σ 8 a) → (xg lv 0 = some (.ref (coa E 15 l0))) → (xg lv 2 = some (cvo l2)) → (xg lv 4 = some (.int l4)) → ∀ res, k_Face_happen_b158 F  σ l0 l2 l4 = some res → cR E (cQx [10, 11, 13, 14]) pF (d + 15) kT217 15 5 (some FieldType.int) (some (.int res.1)) res.2 g σ (158, lv, []) := by
  intro g lv σ l0 l2 l4 bl0 bl2 g0 g2 g4 res h
  unfold k_Face_happen_b158 at h
  refine cR_lift (fun _ _ kk => eE_aload_n lk217_158 g0 kk) ?_
  refine cR_getO (cl' := 14) (i' := 0) lk217_159 rf_15_42 rfl rfl bl0 ?_
  refine cR_getA lk217_162 rf_15_352 (by decide) (cob_0 (c := σ) (cl := 14) (by decide) rfl rfl) ?_
  refine cR_ldO (j := 2) lk217_165 (Or.inr ⟨_, rfl, rfl⟩) g2 ?_
  obtain ⟨a1, h2, h⟩ := Option.bind_eq_some_iff.mp h
  rw [h2]
  obtain ⟨σ4, h5, h⟩ := Option.bind_eq_some_iff.mp h
  refine cR_virtLG (by exact cQx_sub rfl) (cl := 14) (i := 0) (f := 16) (as := [.ref a1]) lk217_166 mr_15_355 na_2 rfl rfl (by first | exact Nat.le_of_ble_eq_true rfl | (simp [xcat, cvo_cat, cat_i, cat_j, cat_r]; done)) wv_2 wc_2 rfl (cob_0 (c := σ) (cl := 14) (by decide) rfl rfl) ((hL (d + 6)).2.2.2.1 E g _ 14 0 16 a1 _ rfl rfl (cob_0 (c := σ) (cl := 14) (by decide) rfl rfl) (clt8 (bl2 _ h2)) h5) (fun _ g_3 g_3e => ?_)
  refine cR_lift (fun _ _ kk => eE_pop lk217_169 rfl kk) ?_
  refine cR_lift (fun _ _ kk => eE_iload lk217_170 g4 kk) ?_
  cases h
  exact cR_end lk217_172 rfl rfl rfl
def k_Face_happen_b96 (F : Nat)  (σ : CS) (l0 : Nat) (l2 : Option Nat) (l4 : Int32) : Option ((Int32) × CS) :=
  (some (csI σ 14 0 4 0 ((cI σ 14 0 4 0) + ((1 : Int32))))).bind fun σ6 =>
  k_Face_happen_b158 F  σ6 l0 l2 l4
set_option maxRecDepth 4000 in
theorem k_Face_happen_b96_ok {E : CE} {pF : Nat → List Value → xH → Option (Option Value × xH)} (hp0 : xNPc pF) (hL : lcAll E pF) (hF : lcF pF) {d : Nat} {F : Nat}   : ∀ (g : CG) (lv : xL) (σ : CS) (l0 : Nat) (l2 : Option Nat) (l4 : Int32), (cob σ 15 l0) → (∀ a, l2 = some a → cob σ 8 a) → (xg lv 0 = some (.ref (coa E 15 l0))) → (xg lv 2 = some (cvo l2)) → (xg lv 4 = some (.int l4)) → ∀ res, k_Face_happen_b96 F  σ l0 l2 l4 = some res → cR E (cQx [10, 11, 13, 14]) pF (d + 15) kT217 15 5 (some FieldType.int) (some (.int res.1)) res.2 g σ (96, lv, []) := by
  intro g lv σ l0 l2 l4 bl0 bl2 g0 g2 g4 res h
  unfold k_Face_happen_b96 at h
  refine cR_lift (fun _ _ kk => eE_aload_n lk217_96 g0 kk) ?_
  refine cR_getO (cl' := 14) (i' := 0) lk217_97 rf_15_42 rfl rfl bl0 ?_
  refine cR_lift (fun _ _ kk => eE_dup lk217_100 rfl kk) ?_
  refine cR_getI lk217_101 rf_15_308 rfl (cob_0 (c := σ) (cl := 14) (by decide) rfl rfl) ?_
  refine cR_lift (fun _ _ kk => eE_iconst (v := 1) lk217_104 (by decide) kk) ?_
  refine cR_lift (fun _ _ kk => eE_iadd lk217_105 kk) ?_
  obtain ⟨σ6, h7, h⟩ := Option.bind_eq_some_iff.mp h
  refine cR_putI lk217_106 rf_15_308 rfl (cob_0 (c := σ) (cl := 14) (by decide) rfl rfl) pf_14_4 rfl h7 ?_
  refine cR_lift (fun _ _ kk => eE_goto (t := 158) lk217_109 (by decide) kk) ?_
  exact k_Face_happen_b158_ok hp0 hL hF  g lv σ6 l0 l2 l4 (cob_any rfl bl0) (fun a e => cob_mon (cput_mon h7) (bl2 a e)) g0 g2 g4 _ h
def k_Face_happen_b112 (F : Nat)  (σ : CS) (l0 : Nat) (l2 : Option Nat) (l4 : Int32) : Option ((Int32) × CS) :=
  if xc2 .ge l4 ((7 : Int32)) = true then (
    (cix 15 3 (l4 - ((8 : Int32)))).bind fun n9 =>
    (l2).bind fun a11 =>
    (k_Client_hear F σ n9 a11).bind fun p13 =>
    k_Face_happen_b158 F  p13 l0 l2 l4
  ) else (
    (cix 15 2 l4).bind fun n17 =>
    (l2).bind fun a19 =>
    (k_Server_receive F σ n17 a19).bind fun p21 =>
    (cix 15 2 l4).bind fun n25 =>
    (k_Server_settle F p21 n25 l2).bind fun p27 =>
    k_Face_happen_b158 F  p27 l0 l2 l4
  )
set_option maxRecDepth 4000 in
theorem k_Face_happen_b112_ok {E : CE} {pF : Nat → List Value → xH → Option (Option Value × xH)} (hp0 : xNPc pF) (hL : lcAll E pF) (hF : lcF pF) {d : Nat} {F : Nat}   : ∀ (g : CG) (lv : xL) (σ : CS) (l0 : Nat) (l2 : Option Nat) (l4 : Int32), (cob σ 15 l0) → (∀ a, l2 = some a → cob σ 8 a) → (xg lv 0 = some (.ref (coa E 15 l0))) → (xg lv 2 = some (cvo l2)) → (xg lv 4 = some (.int l4)) → ∀ res, k_Face_happen_b112 F  σ l0 l2 l4 = some res → cR E (cQx [10, 11, 13, 14]) pF (d + 15) kT217 15 5 (some FieldType.int) (some (.int res.1)) res.2 g σ (112, lv, []) := by
  intro g lv σ l0 l2 l4 bl0 bl2 g0 g2 g4 res h
  unfold k_Face_happen_b112 at h
  refine cR_lift (fun _ _ kk => eE_iload lk217_112 g4 kk) ?_
  refine cR_lift (fun _ _ kk => eE_bipush (v := 7) lk217_114 (by decide) kk) ?_
  refine cR_icmp (t := 144) lk217_116 (by decide) (fun c8 => ?_) (fun c8 => ?_)
  · rw [if_pos c8] at h
    refine cR_lift (fun _ _ kk => eE_aload_n lk217_144 g0 kk) ?_
    refine cR_getA lk217_145 rf_15_17 (by decide) bl0 ?_
    refine cR_lift (fun _ _ kk => eE_iload lk217_148 g4 kk) ?_
    refine cR_lift (fun _ _ kk => eE_bipush (v := 8) lk217_150 (by decide) kk) ?_
    refine cR_lift (fun _ _ kk => eE_isub lk217_152 kk) ?_
    obtain ⟨n9, h10, h⟩ := Option.bind_eq_some_iff.mp h
    refine cR_aald (cl := 15) (i := l0) (f := 3) (cl' := 5) (i' := n9) lk217_153 rfl (by decide) bl0 h10 rfl ?_
    refine cR_ldO (j := 2) lk217_154 (Or.inr ⟨_, rfl, rfl⟩) g2 ?_
    obtain ⟨a11, h12, h⟩ := Option.bind_eq_some_iff.mp h
    rw [h12]
    obtain ⟨p13, h14, h⟩ := Option.bind_eq_some_iff.mp h
    refine cR_virtG (by exact cQx_sub rfl) (cl := 5) (i := n9) (as := [.ref (coa E 8 a11)]) lk217_155 mr_15_349 na_23 rfl rfl (by first | exact Nat.le_of_ble_eq_true rfl | (simp [xcat, cvo_cat, cat_i, cat_j, cat_r]; done)) wv_23 wc_23 (cob_of_lt (c := σ) (cl := 5) (by decide) rfl (cix_lt h10)) (k_Client_hear_ok hp0 hL hF (d := d + 1) (cob_of_lt (c := σ) (cl := 5) (by decide) rfl (cix_lt h10)) (bl2 _ h12) h14) (fun m15 g_16 g_16e => ?_)
    exact k_Face_happen_b158_ok hp0 hL hF  g_16 lv p13 l0 l2 l4 (cob_any rfl bl0) (fun a e => cob_mon m15 (bl2 a e)) g0 g2 g4 _ h
  · rw [if_neg c8] at h
    refine cR_lift (fun _ _ kk => eE_aload_n lk217_119 g0 kk) ?_
    refine cR_getA lk217_120 rf_15_11 (by decide) bl0 ?_
    refine cR_lift (fun _ _ kk => eE_iload lk217_123 g4 kk) ?_
    obtain ⟨n17, h18, h⟩ := Option.bind_eq_some_iff.mp h
    refine cR_aald (cl := 15) (i := l0) (f := 2) (cl' := 13) (i' := n17) lk217_125 rfl (by decide) bl0 h18 rfl ?_
    refine cR_ldO (j := 2) lk217_126 (Or.inr ⟨_, rfl, rfl⟩) g2 ?_
    obtain ⟨a19, h20, h⟩ := Option.bind_eq_some_iff.mp h
    rw [h20]
    obtain ⟨p21, h22, h⟩ := Option.bind_eq_some_iff.mp h
    refine cR_virtG (by exact cQx_sub rfl) (cl := 13) (i := n17) (as := [.ref (coa E 8 a19)]) lk217_127 mr_15_342 na_154 rfl rfl (by first | exact Nat.le_of_ble_eq_true rfl | (simp [xcat, cvo_cat, cat_i, cat_j, cat_r]; done)) wv_154 wc_154 (cob_of_lt (c := σ) (cl := 13) (by decide) rfl (cix_lt h18)) (k_Server_receive_ok hp0 hL hF (d := d + 0) (cob_of_lt (c := σ) (cl := 13) (by decide) rfl (cix_lt h18)) (bl2 _ h20) h22) (fun m23 g_24 g_24e => ?_)
    refine cR_lift (fun _ _ kk => eE_aload_n lk217_130 g0 kk) ?_
    refine cR_getA lk217_131 rf_15_11 (by decide) (cob_any rfl bl0) ?_
    refine cR_lift (fun _ _ kk => eE_iload lk217_134 g4 kk) ?_
    obtain ⟨n25, h26, h⟩ := Option.bind_eq_some_iff.mp h
    refine cR_aald (cl := 15) (i := l0) (f := 2) (cl' := 13) (i' := n25) lk217_136 rfl (by decide) (cob_any rfl bl0) h26 rfl ?_
    refine cR_ldO (j := 2) lk217_137 (Or.inr ⟨_, rfl, rfl⟩) g2 ?_
    obtain ⟨p27, h28, h⟩ := Option.bind_eq_some_iff.mp h
    refine cR_virtG (by exact cQx_sub rfl) (cl := 13) (i := n25) (as := [cvo l2]) lk217_138 mr_15_346 na_164 rfl rfl (by first | exact Nat.le_of_ble_eq_true rfl | (simp [xcat, cvo_cat, cat_i, cat_j, cat_r]; done)) wv_164 wc_164 (cob_of_lt (c := p21) (cl := 13) (by decide) rfl (cix_lt h26)) (k_Server_settle_ok hp0 hL hF (d := d + 0) (cob_of_lt (c := p21) (cl := 13) (by decide) rfl (cix_lt h26)) (fun a e => cob_mon m23 (bl2 a e)) h28) (fun m29 g_30 g_30e => ?_)
    refine cR_lift (fun _ _ kk => eE_goto (t := 158) lk217_141 (by decide) kk) ?_
    exact k_Face_happen_b158_ok hp0 hL hF  g_30 lv p27 l0 l2 l4 (cob_any rfl bl0) (fun a e => cob_mon m29 ((fun a e => cob_mon m23 (bl2 a e)) a e)) g0 g2 g4 _ h
def k_Face_happen_b37 (F : Nat)  (σ : CS) (l0 : Nat) (l1 : Int32) (l2 : Option Nat) : Option ((Int32) × CS) :=
  (l2).bind fun a31 =>
  if xc2 .le (cI σ 8 a31 0 0) l1 = true then (
    (l2).bind fun a34 =>
    (k_World_takeFirstLetter σ 0).bind fun p41 =>
    (l2).bind fun a44 =>
    (k_World_areParted p41 0 (cI p41 8 a44 2 0) (cI σ 8 a34 3 0)).bind fun p46 =>
    if xc0 .ne p46 = true then (
      k_Face_happen_b96 F  p41 l0 l2 (cI σ 8 a34 3 0)
    ) else (
      if xc2 .ge (cI σ 8 a34 3 0) ((7 : Int32)) = true then (
        k_Face_happen_b112 F  p41 l0 l2 (cI σ 8 a34 3 0)
      ) else (
        (cix 15 2 (cI σ 8 a34 3 0)).bind fun n51 =>
        if xc0 .ne (cI p41 13 n51 8 0) = true then (
          k_Face_happen_b112 F  p41 l0 l2 (cI σ 8 a34 3 0)
        ) else (
          k_Face_happen_b96 F  p41 l0 l2 (cI σ 8 a34 3 0)
        )
      )
    )
  ) else (
    some ((-1 : Int32), σ)
  )
set_option maxRecDepth 4000 in
theorem k_Face_happen_b37_ok {E : CE} {pF : Nat → List Value → xH → Option (Option Value × xH)} (hp0 : xNPc pF) (hL : lcAll E pF) (hF : lcF pF) {d : Nat} {F : Nat}   : ∀ (g : CG) (lv : xL) (σ : CS) (l0 : Nat) (l1 : Int32) (l2 : Option Nat), (cob σ 15 l0) → (∀ a, l2 = some a → cob σ 8 a) → (xg lv 0 = some (.ref (coa E 15 l0))) → (xg lv 1 = some (.int l1)) → (xg lv 2 = some (cvo l2)) → ∀ res, k_Face_happen_b37 F  σ l0 l1 l2 = some res → cR E (cQx [10, 11, 13, 14]) pF (d + 15) kT217 15 5 (some FieldType.int) (some (.int res.1)) res.2 g σ (37, lv, []) := by
  intro g lv σ l0 l1 l2 bl0 bl2 g0 g1 g2 res h
  unfold k_Face_happen_b37 at h
  refine cR_ldO (j := 2) lk217_37 (Or.inr ⟨_, rfl, rfl⟩) g2 ?_
  obtain ⟨a31, h32, h⟩ := Option.bind_eq_some_iff.mp h
  rw [h32]
  refine cR_getI lk217_38 rf_15_272 rfl (bl2 _ h32) ?_
  refine cR_lift (fun _ _ kk => eE_iload_n lk217_41 g1 kk) ?_
  refine cR_icmp (t := 47) lk217_42 (by decide) (fun c33 => ?_) (fun c33 => ?_)
  · rw [if_pos c33] at h
    refine cR_ldO (j := 2) lk217_47 (Or.inr ⟨_, rfl, rfl⟩) g2 ?_
    obtain ⟨a34, h35, h⟩ := Option.bind_eq_some_iff.mp h
    rw [h35]
    refine cR_getI lk217_48 rf_15_263 rfl (bl2 _ h35) ?_
    refine cR_stI (j := 4) lk217_51 (Or.inl rfl) (by decide) (fun vq36 gq37 kq38 => ?_)
    have gq39 := kq38 0 _ (by decide) (fun e => absurd e (by decide)) g0
    have gq40 := kq38 2 _ (by decide) (fun e => absurd e (by decide)) g2
    refine cR_lift (fun _ _ kk => eE_aload_n lk217_53 gq39 kk) ?_
    refine cR_getO (cl' := 14) (i' := 0) lk217_54 rf_15_42 rfl rfl bl0 ?_
    obtain ⟨p41, h42, h⟩ := Option.bind_eq_some_iff.mp h
    refine cR_virt (cl := 14) (i := 0) (as := []) lk217_57 mr_15_335 na_202 rfl rfl (by first | exact Nat.le_of_ble_eq_true rfl | (simp [xcat, cvo_cat, cat_i, cat_j, cat_r]; done)) wv_202 wc_202 (cob_0 (c := σ) (cl := 14) (by decide) rfl rfl) (k_World_takeFirstLetter_ok hp0 hL hF (d := d + 5) (cob_0 (c := σ) (cl := 14) (by decide) rfl rfl) h42) (fun m43  => ?_)
    refine cR_lift (fun _ _ kk => eE_aload_n lk217_60 gq39 kk) ?_
    refine cR_getO (cl' := 14) (i' := 0) lk217_61 rf_15_42 rfl rfl (cob_any rfl bl0) ?_
    refine cR_ldO (j := 2) lk217_64 (Or.inr ⟨_, rfl, rfl⟩) gq40 ?_
    obtain ⟨a44, h45, h⟩ := Option.bind_eq_some_iff.mp h
    rw [h45]
    refine cR_getI lk217_65 rf_15_260 rfl ((fun a e => cob_mon m43 (bl2 a e)) _ h45) ?_
    refine cR_lift (fun _ _ kk => eE_iload lk217_68 gq37 kk) ?_
    obtain ⟨p46, h47, h⟩ := Option.bind_eq_some_iff.mp h
    refine cR_virt (cl := 14) (i := 0) (as := [.int (cI p41 8 a44 2 0), .int (cI σ 8 a34 3 0)]) lk217_70 mr_15_338 na_184 rfl rfl (by first | exact Nat.le_of_ble_eq_true rfl | (simp [xcat, cvo_cat, cat_i, cat_j, cat_r]; done)) wv_184 wc_184 (cob_0 (c := p41) (cl := 14) (by decide) rfl rfl) (k_World_areParted_ok hp0 hL hF (d := d + 14) (cob_0 (c := p41) (cl := 14) (by decide) rfl rfl) h47) (fun m48  => ?_)
    refine cR_if (t := 96) lk217_73 (by decide) (fun c49 => ?_) (fun c49 => ?_)
    · rw [if_pos c49] at h
      exact k_Face_happen_b96_ok hp0 hL hF  g vq36 p41 l0 l2 (cI σ 8 a34 3 0) (cob_any rfl bl0) (fun a e => cob_mon m43 (bl2 a e)) gq39 gq40 gq37 _ h
    · rw [if_neg c49] at h
      refine cR_lift (fun _ _ kk => eE_iload lk217_76 gq37 kk) ?_
      refine cR_lift (fun _ _ kk => eE_bipush (v := 7) lk217_78 (by decide) kk) ?_
      refine cR_icmp (t := 112) lk217_80 (by decide) (fun c50 => ?_) (fun c50 => ?_)
      · rw [if_pos c50] at h
        exact k_Face_happen_b112_ok hp0 hL hF  g vq36 p41 l0 l2 (cI σ 8 a34 3 0) (cob_any rfl bl0) (fun a e => cob_mon m43 (bl2 a e)) gq39 gq40 gq37 _ h
      · rw [if_neg c50] at h
        refine cR_lift (fun _ _ kk => eE_aload_n lk217_83 gq39 kk) ?_
        refine cR_getA lk217_84 rf_15_11 (by decide) (cob_any rfl bl0) ?_
        refine cR_lift (fun _ _ kk => eE_iload lk217_87 gq37 kk) ?_
        obtain ⟨n51, h52, h⟩ := Option.bind_eq_some_iff.mp h
        refine cR_aald (cl := 15) (i := l0) (f := 2) (cl' := 13) (i' := n51) lk217_89 rfl (by decide) (cob_any rfl bl0) h52 rfl ?_
        refine cR_getI lk217_90 rf_15_165 rfl (cob_of_lt (c := p41) (cl := 13) (by decide) rfl (cix_lt h52)) ?_
        refine cR_if (t := 112) lk217_93 (by decide) (fun c53 => ?_) (fun c53 => ?_)
        · rw [if_pos c53] at h
          exact k_Face_happen_b112_ok hp0 hL hF  g vq36 p41 l0 l2 (cI σ 8 a34 3 0) (cob_any rfl bl0) (fun a e => cob_mon m43 (bl2 a e)) gq39 gq40 gq37 _ h
        · rw [if_neg c53] at h
          exact k_Face_happen_b96_ok hp0 hL hF  g vq36 p41 l0 l2 (cI σ 8 a34 3 0) (cob_any rfl bl0) (fun a e => cob_mon m43 (bl2 a e)) gq39 gq40 gq37 _ h
  · rw [if_neg c33] at h
    refine cR_lift (fun _ _ kk => eE_iconst (v := (-1)) lk217_45 (by decide) kk) ?_
    cases h
    exact cR_end lk217_46 rfl rfl rfl
def k_Face_happen_b191 (F : Nat)  (σ : CS) : Option ((Int32) × CS) :=
  some ((-1 : Int32), σ)
set_option maxRecDepth 4000 in
theorem k_Face_happen_b191_ok {E : CE} {pF : Nat → List Value → xH → Option (Option Value × xH)} (hp0 : xNPc pF) (hL : lcAll E pF) (hF : lcF pF) {d : Nat} {F : Nat}   : ∀ (g : CG) (lv : xL) (σ : CS), ∀ res, k_Face_happen_b191 F  σ = some res → cR E (cQx [10, 11, 13, 14]) pF (d + 15) kT217 15 5 (some FieldType.int) (some (.int res.1)) res.2 g σ (191, lv, []) := by
  intro g lv σ res h
  unfold k_Face_happen_b191 at h
  refine cR_lift (fun _ _ kk => eE_iconst (v := (-1)) lk217_191 (by decide) kk) ?_
  cases h
  exact cR_end lk217_192 rfl rfl rfl
def k_Face_happen_b275 (F : Nat)  (σ : CS) (l3 : Int32) : Option ((Int32) × CS) :=
  some (l3, σ)
set_option maxRecDepth 4000 in
theorem k_Face_happen_b275_ok {E : CE} {pF : Nat → List Value → xH → Option (Option Value × xH)} (hp0 : xNPc pF) (hL : lcAll E pF) (hF : lcF pF) {d : Nat} {F : Nat}   : ∀ (g : CG) (lv : xL) (σ : CS) (l3 : Int32), (xg lv 3 = some (.int l3)) → ∀ res, k_Face_happen_b275 F  σ l3 = some res → cR E (cQx [10, 11, 13, 14]) pF (d + 15) kT217 15 5 (some FieldType.int) (some (.int res.1)) res.2 g σ (275, lv, []) := by
  intro g lv σ l3 g3 res h
  unfold k_Face_happen_b275 at h
  refine cR_lift (fun _ _ kk => eE_iload_n lk217_275 g3 kk) ?_
  cases h
  exact cR_end lk217_276 rfl rfl rfl
def k_Face_happen_b173 (F : Nat)  (σ : CS) (l0 : Nat) (l1 : Int32) (l3 : Int32) : Option ((Int32) × CS) :=
  if xc2 .eq l3 ((-1 : Int32)) = true then (
    k_Face_happen_b191 F  σ
  ) else (
    (crd σ 14 0 10 l3).bind fun x55 =>
    if xc2 .le x55 l1 = true then (
      (k_World_takeBell σ 0 l3).bind fun p58 =>
      if xc2 .lt l3 ((16 : Int32)) = true then (
        if xc2 .ge l3 ((7 : Int32)) = true then (
          (cix 15 3 (l3 - ((8 : Int32)))).bind fun n63 =>
          (k_Client_wake F p58 n63).bind fun p65 =>
          k_Face_happen_b275 F  p65 l3
        ) else (
          (cix 15 2 l3).bind fun n69 =>
          (k_Server_wake F p58 n69).bind fun p71 =>
          (cix 15 2 l3).bind fun n75 =>
          (k_Server_settle F p71 n75 none).bind fun p77 =>
          k_Face_happen_b275 F  p77 l3
        )
      ) else (
        (cix 15 2 (l3 - ((16 : Int32)))).bind fun n81 =>
        (k_Server_sync F p58 n81).bind fun p83 =>
        (cix 15 2 (l3 - ((16 : Int32)))).bind fun n87 =>
        (k_Server_settle F p83 n87 none).bind fun p89 =>
        k_Face_happen_b275 F  p89 l3
      )
    ) else (
      k_Face_happen_b191 F  σ
    )
  )
set_option maxRecDepth 4000 in
theorem k_Face_happen_b173_ok {E : CE} {pF : Nat → List Value → xH → Option (Option Value × xH)} (hp0 : xNPc pF) (hL : lcAll E pF) (hF : lcF pF) {d : Nat} {F : Nat}   : ∀ (g : CG) (lv : xL) (σ : CS) (l0 : Nat) (l1 : Int32) (l3 : Int32), (cob σ 15 l0) → (xg lv 0 = some (.ref (coa E 15 l0))) → (xg lv 1 = some (.int l1)) → (xg lv 3 = some (.int l3)) → ∀ res, k_Face_happen_b173 F  σ l0 l1 l3 = some res → cR E (cQx [10, 11, 13, 14]) pF (d + 15) kT217 15 5 (some FieldType.int) (some (.int res.1)) res.2 g σ (173, lv, []) := by
  intro g lv σ l0 l1 l3 bl0 g0 g1 g3 res h
  unfold k_Face_happen_b173 at h
  refine cR_lift (fun _ _ kk => eE_iload_n lk217_173 g3 kk) ?_
  refine cR_lift (fun _ _ kk => eE_iconst (v := (-1)) lk217_174 (by decide) kk) ?_
  refine cR_icmp (t := 191) lk217_175 (by decide) (fun c54 => ?_) (fun c54 => ?_)
  · rw [if_pos c54] at h
    exact k_Face_happen_b191_ok hp0 hL hF  g lv σ  _ h
  · rw [if_neg c54] at h
    refine cR_lift (fun _ _ kk => eE_aload_n lk217_178 g0 kk) ?_
    refine cR_getO (cl' := 14) (i' := 0) lk217_179 rf_15_42 rfl rfl bl0 ?_
    refine cR_getA lk217_182 rf_15_358 (by decide) (cob_0 (c := σ) (cl := 14) (by decide) rfl rfl) ?_
    refine cR_lift (fun _ _ kk => eE_iload_n lk217_185 g3 kk) ?_
    obtain ⟨x55, h56, h⟩ := Option.bind_eq_some_iff.mp h
    refine cR_iald (cl := 14) (i := 0) (f := 10) lk217_186 (by decide) rfl (cob_0 (c := σ) (cl := 14) (by decide) rfl rfl) h56 ?_
    refine cR_lift (fun _ _ kk => eE_iload_n lk217_187 g1 kk) ?_
    refine cR_icmp (t := 193) lk217_188 (by decide) (fun c57 => ?_) (fun c57 => ?_)
    · rw [if_pos c57] at h
      refine cR_lift (fun _ _ kk => eE_aload_n lk217_193 g0 kk) ?_
      refine cR_getO (cl' := 14) (i' := 0) lk217_194 rf_15_42 rfl rfl bl0 ?_
      refine cR_lift (fun _ _ kk => eE_iload_n lk217_197 g3 kk) ?_
      obtain ⟨p58, h59, h⟩ := Option.bind_eq_some_iff.mp h
      refine cR_virt (cl := 14) (i := 0) (as := [.int l3]) lk217_198 mr_15_361 na_201 rfl rfl (by first | exact Nat.le_of_ble_eq_true rfl | (simp [xcat, cvo_cat, cat_i, cat_j, cat_r]; done)) wv_201 wc_201 (cob_0 (c := σ) (cl := 14) (by decide) rfl rfl) (k_World_takeBell_ok hp0 hL hF (d := d + 13) (cob_0 (c := σ) (cl := 14) (by decide) rfl rfl) h59) (fun m60  => ?_)
      refine cR_lift (fun _ _ kk => eE_iload_n lk217_201 g3 kk) ?_
      refine cR_lift (fun _ _ kk => eE_bipush (v := 16) lk217_202 (by decide) kk) ?_
      refine cR_icmp (t := 235) lk217_204 (by decide) (fun c61 => ?_) (fun c61 => ?_)
      · rw [if_pos c61] at h
        refine cR_lift (fun _ _ kk => eE_iload_n lk217_235 g3 kk) ?_
        refine cR_lift (fun _ _ kk => eE_bipush (v := 7) lk217_236 (by decide) kk) ?_
        refine cR_icmp (t := 263) lk217_238 (by decide) (fun c62 => ?_) (fun c62 => ?_)
        · rw [if_pos c62] at h
          refine cR_lift (fun _ _ kk => eE_aload_n lk217_263 g0 kk) ?_
          refine cR_getA lk217_264 rf_15_17 (by decide) (cob_any rfl bl0) ?_
          refine cR_lift (fun _ _ kk => eE_iload_n lk217_267 g3 kk) ?_
          refine cR_lift (fun _ _ kk => eE_bipush (v := 8) lk217_268 (by decide) kk) ?_
          refine cR_lift (fun _ _ kk => eE_isub lk217_270 kk) ?_
          obtain ⟨n63, h64, h⟩ := Option.bind_eq_some_iff.mp h
          refine cR_aald (cl := 15) (i := l0) (f := 3) (cl' := 5) (i' := n63) lk217_271 rfl (by decide) (cob_any rfl bl0) h64 rfl ?_
          obtain ⟨p65, h66, h⟩ := Option.bind_eq_some_iff.mp h
          refine cR_virtG (by exact cQx_sub rfl) (cl := 5) (i := n63) (as := []) lk217_272 mr_15_370 na_31 rfl rfl (by first | exact Nat.le_of_ble_eq_true rfl | (simp [xcat, cvo_cat, cat_i, cat_j, cat_r]; done)) wv_31 wc_31 (cob_of_lt (c := p58) (cl := 5) (by decide) rfl (cix_lt h64)) (k_Client_wake_ok hp0 hL hF (d := d + 2) (cob_of_lt (c := p58) (cl := 5) (by decide) rfl (cix_lt h64)) h66) (fun m67 g_68 g_68e => ?_)
          exact k_Face_happen_b275_ok hp0 hL hF  g_68 lv p65 l3 g3 _ h
        · rw [if_neg c62] at h
          refine cR_lift (fun _ _ kk => eE_aload_n lk217_241 g0 kk) ?_
          refine cR_getA lk217_242 rf_15_11 (by decide) (cob_any rfl bl0) ?_
          refine cR_lift (fun _ _ kk => eE_iload_n lk217_245 g3 kk) ?_
          obtain ⟨n69, h70, h⟩ := Option.bind_eq_some_iff.mp h
          refine cR_aald (cl := 15) (i := l0) (f := 2) (cl' := 13) (i' := n69) lk217_246 rfl (by decide) (cob_any rfl bl0) h70 rfl ?_
          obtain ⟨p71, h72, h⟩ := Option.bind_eq_some_iff.mp h
          refine cR_virtG (by exact cQx_sub rfl) (cl := 13) (i := n69) (as := []) lk217_247 mr_15_367 na_183 rfl rfl (by first | exact Nat.le_of_ble_eq_true rfl | (simp [xcat, cvo_cat, cat_i, cat_j, cat_r]; done)) wv_183 wc_183 (cob_of_lt (c := p58) (cl := 13) (by decide) rfl (cix_lt h70)) (k_Server_wake_ok hp0 hL hF (d := d + 1) (cob_of_lt (c := p58) (cl := 13) (by decide) rfl (cix_lt h70)) h72) (fun m73 g_74 g_74e => ?_)
          refine cR_lift (fun _ _ kk => eE_aload_n lk217_250 g0 kk) ?_
          refine cR_getA lk217_251 rf_15_11 (by decide) (cob_any rfl bl0) ?_
          refine cR_lift (fun _ _ kk => eE_iload_n lk217_254 g3 kk) ?_
          obtain ⟨n75, h76, h⟩ := Option.bind_eq_some_iff.mp h
          refine cR_aald (cl := 15) (i := l0) (f := 2) (cl' := 13) (i' := n75) lk217_255 rfl (by decide) (cob_any rfl bl0) h76 rfl ?_
          refine cR_null lk217_256 ?_
          obtain ⟨p77, h78, h⟩ := Option.bind_eq_some_iff.mp h
          refine cR_virtG (by exact cQx_sub rfl) (cl := 13) (i := n75) (as := [cvo none]) lk217_257 mr_15_346 na_164 rfl rfl (by first | exact Nat.le_of_ble_eq_true rfl | (simp [xcat, cvo_cat, cat_i, cat_j, cat_r]; done)) wv_164 wc_164 (cob_of_lt (c := p71) (cl := 13) (by decide) rfl (cix_lt h76)) (k_Server_settle_ok hp0 hL hF (d := d + 0) (cob_of_lt (c := p71) (cl := 13) (by decide) rfl (cix_lt h76)) (fun _ e => nomatch e) h78) (fun m79 g_80 g_80e => ?_)
          refine cR_lift (fun _ _ kk => eE_goto (t := 275) lk217_260 (by decide) kk) ?_
          exact k_Face_happen_b275_ok hp0 hL hF  g_80 lv p77 l3 g3 _ h
      · rw [if_neg c61] at h
        refine cR_lift (fun _ _ kk => eE_aload_n lk217_207 g0 kk) ?_
        refine cR_getA lk217_208 rf_15_11 (by decide) (cob_any rfl bl0) ?_
        refine cR_lift (fun _ _ kk => eE_iload_n lk217_211 g3 kk) ?_
        refine cR_lift (fun _ _ kk => eE_bipush (v := 16) lk217_212 (by decide) kk) ?_
        refine cR_lift (fun _ _ kk => eE_isub lk217_214 kk) ?_
        obtain ⟨n81, h82, h⟩ := Option.bind_eq_some_iff.mp h
        refine cR_aald (cl := 15) (i := l0) (f := 2) (cl' := 13) (i' := n81) lk217_215 rfl (by decide) (cob_any rfl bl0) h82 rfl ?_
        obtain ⟨p83, h84, h⟩ := Option.bind_eq_some_iff.mp h
        refine cR_virtG (by exact cQx_sub rfl) (cl := 13) (i := n81) (as := []) lk217_216 mr_15_364 na_167 rfl rfl (by first | exact Nat.le_of_ble_eq_true rfl | (simp [xcat, cvo_cat, cat_i, cat_j, cat_r]; done)) wv_167 wc_167 (cob_of_lt (c := p58) (cl := 13) (by decide) rfl (cix_lt h82)) (k_Server_sync_ok hp0 hL hF (d := d + 2) (cob_of_lt (c := p58) (cl := 13) (by decide) rfl (cix_lt h82)) h84) (fun m85 g_86 g_86e => ?_)
        refine cR_lift (fun _ _ kk => eE_aload_n lk217_219 g0 kk) ?_
        refine cR_getA lk217_220 rf_15_11 (by decide) (cob_any rfl bl0) ?_
        refine cR_lift (fun _ _ kk => eE_iload_n lk217_223 g3 kk) ?_
        refine cR_lift (fun _ _ kk => eE_bipush (v := 16) lk217_224 (by decide) kk) ?_
        refine cR_lift (fun _ _ kk => eE_isub lk217_226 kk) ?_
        obtain ⟨n87, h88, h⟩ := Option.bind_eq_some_iff.mp h
        refine cR_aald (cl := 15) (i := l0) (f := 2) (cl' := 13) (i' := n87) lk217_227 rfl (by decide) (cob_any rfl bl0) h88 rfl ?_
        refine cR_null lk217_228 ?_
        obtain ⟨p89, h90, h⟩ := Option.bind_eq_some_iff.mp h
        refine cR_virtG (by exact cQx_sub rfl) (cl := 13) (i := n87) (as := [cvo none]) lk217_229 mr_15_346 na_164 rfl rfl (by first | exact Nat.le_of_ble_eq_true rfl | (simp [xcat, cvo_cat, cat_i, cat_j, cat_r]; done)) wv_164 wc_164 (cob_of_lt (c := p83) (cl := 13) (by decide) rfl (cix_lt h88)) (k_Server_settle_ok hp0 hL hF (d := d + 0) (cob_of_lt (c := p83) (cl := 13) (by decide) rfl (cix_lt h88)) (fun _ e => nomatch e) h90) (fun m91 g_92 g_92e => ?_)
        refine cR_lift (fun _ _ kk => eE_goto (t := 275) lk217_232 (by decide) kk) ?_
        exact k_Face_happen_b275_ok hp0 hL hF  g_92 lv p89 l3 g3 _ h
    · rw [if_neg c57] at h
      exact k_Face_happen_b191_ok hp0 hL hF  g lv σ  _ h
def k_Face_happen_b0 (F : Nat)  (σ : CS) (l0 : Nat) (l1 : Int32) : Option ((Int32) × CS) :=
  (k_World_firstLetter σ 0).bind fun p93 =>
  (k_World_firstBell F σ 0).bind fun p102 =>
  if p93 = none then (
    k_Face_happen_b173 F  σ l0 l1 p102
  ) else (
    if xc2 .eq p102 ((-1 : Int32)) = true then (
      k_Face_happen_b37 F  σ l0 l1 p93
    ) else (
      (p93).bind fun a114 =>
      (k_World_isBefore σ 0 a114 p102).bind fun p116 =>
      if xc0 .eq p116 = true then (
        k_Face_happen_b173 F  σ l0 l1 p102
      ) else (
        k_Face_happen_b37 F  σ l0 l1 p93
      )
    )
  )
set_option maxRecDepth 4000 in
theorem k_Face_happen_b0_ok {E : CE} {pF : Nat → List Value → xH → Option (Option Value × xH)} (hp0 : xNPc pF) (hL : lcAll E pF) (hF : lcF pF) {d : Nat} {F : Nat}   : ∀ (g : CG) (lv : xL) (σ : CS) (l0 : Nat) (l1 : Int32), (cob σ 15 l0) → (xg lv 0 = some (.ref (coa E 15 l0))) → (xg lv 1 = some (.int l1)) → ∀ res, k_Face_happen_b0 F  σ l0 l1 = some res → cR E (cQx [10, 11, 13, 14]) pF (d + 15) kT217 15 5 (some FieldType.int) (some (.int res.1)) res.2 g σ (0, lv, []) := by
  intro g lv σ l0 l1 bl0 g0 g1 res h
  unfold k_Face_happen_b0 at h
  refine cR_lift (fun _ _ kk => eE_aload_n lk217_0 g0 kk) ?_
  refine cR_getO (cl' := 14) (i' := 0) lk217_1 rf_15_42 rfl rfl bl0 ?_
  obtain ⟨p93, h94, h⟩ := Option.bind_eq_some_iff.mp h
  refine cR_rep (fun _ hc => k_World_firstLetter_lt hc (cob_0 (c := σ) (cl := 14) (by decide) rfl rfl) h94) (fun b95 => ?_)
  refine cR_virt (cl := 14) (i := 0) (as := []) lk217_4 mr_15_324 na_192 rfl rfl (by first | exact Nat.le_of_ble_eq_true rfl | (simp [xcat, cvo_cat, cat_i, cat_j, cat_r]; done)) wv_192 wc_192 (cob_0 (c := σ) (cl := 14) (by decide) rfl rfl) (k_World_firstLetter_ok hp0 hL hF (d := d + 5) (cob_0 (c := σ) (cl := 14) (by decide) rfl rfl) h94) (fun m96  => ?_)
  refine cR_stO (j := 2) lk217_7 (Or.inr ⟨_, rfl, rfl⟩) (by decide) (fun vq97 gq98 kq99 => ?_)
  have gq100 := kq99 0 _ (by decide) (fun e => absurd e (by decide)) g0
  have gq101 := kq99 1 _ (by decide) (fun _ => rfl) g1
  refine cR_lift (fun _ _ kk => eE_aload_n lk217_8 gq100 kk) ?_
  refine cR_getO (cl' := 14) (i' := 0) lk217_9 rf_15_42 rfl rfl bl0 ?_
  obtain ⟨p102, h103, h⟩ := Option.bind_eq_some_iff.mp h
  refine cR_virt (cl := 14) (i := 0) (as := []) lk217_12 mr_15_328 na_191 rfl rfl (by first | exact Nat.le_of_ble_eq_true rfl | (simp [xcat, cvo_cat, cat_i, cat_j, cat_r]; done)) wv_191 wc_191 (cob_0 (c := σ) (cl := 14) (by decide) rfl rfl) (k_World_firstBell_ok hp0 hL hF (d := d + 14) (cob_0 (c := σ) (cl := 14) (by decide) rfl rfl) h103) (fun m104  => ?_)
  refine cR_stI (j := 3) lk217_15 (Or.inr ⟨_, rfl, rfl⟩) (by decide) (fun vq105 gq106 kq107 => ?_)
  have gq108 := kq107 0 _ (by decide) (fun e => absurd e (by decide)) gq100
  have gq109 := kq107 1 _ (by decide) (fun e => absurd e (by decide)) gq101
  have gq110 := kq107 2 _ (by decide) (fun _ => cvo_cat) gq98
  refine cR_ldO (j := 2) lk217_16 (Or.inr ⟨_, rfl, rfl⟩) gq110 ?_
  refine cR_ifnull (t := 173) lk217_17 (by decide) (fun c111 => ?_) (fun a112 c111s => ?_)
  · rw [if_pos c111] at h
    exact k_Face_happen_b173_ok hp0 hL hF  g vq105 σ l0 l1 p102 bl0 gq108 gq109 gq106 _ h
  · have c111 : ¬ p93 = none := by rw [c111s]; exact fun e => nomatch e
    rw [if_neg c111] at h
    refine cR_lift (fun _ _ kk => eE_iload_n lk217_20 gq106 kk) ?_
    refine cR_lift (fun _ _ kk => eE_iconst (v := (-1)) lk217_21 (by decide) kk) ?_
    refine cR_icmp (t := 37) lk217_22 (by decide) (fun c113 => ?_) (fun c113 => ?_)
    · rw [if_pos c113] at h
      exact k_Face_happen_b37_ok hp0 hL hF  g vq105 σ l0 l1 p93 bl0 b95 gq108 gq109 gq110 _ h
    · rw [if_neg c113] at h
      refine cR_lift (fun _ _ kk => eE_aload_n lk217_25 gq108 kk) ?_
      refine cR_getO (cl' := 14) (i' := 0) lk217_26 rf_15_42 rfl rfl bl0 ?_
      refine cR_ldO (j := 2) lk217_29 (Or.inr ⟨_, rfl, rfl⟩) gq110 ?_
      refine cR_lift (fun _ _ kk => eE_iload_n lk217_30 gq106 kk) ?_
      obtain ⟨a114, h115, h⟩ := Option.bind_eq_some_iff.mp h
      rw [h115]
      obtain ⟨p116, h117, h⟩ := Option.bind_eq_some_iff.mp h
      refine cR_virt (cl := 14) (i := 0) (as := [.ref (coa E 8 a114), .int p102]) lk217_31 mr_15_331 na_196 rfl rfl (by first | exact Nat.le_of_ble_eq_true rfl | (simp [xcat, cvo_cat, cat_i, cat_j, cat_r]; done)) wv_196 wc_196 (cob_0 (c := σ) (cl := 14) (by decide) rfl rfl) (k_World_isBefore_ok hp0 hL hF (d := d + 14) (cob_0 (c := σ) (cl := 14) (by decide) rfl rfl) (b95 _ h115) h117) (fun m118  => ?_)
      refine cR_if (t := 173) lk217_34 (by decide) (fun c119 => ?_) (fun c119 => ?_)
      · rw [if_pos c119] at h
        exact k_Face_happen_b173_ok hp0 hL hF  g vq105 σ l0 l1 p102 bl0 gq108 gq109 gq106 _ h
      · rw [if_neg c119] at h
        exact k_Face_happen_b37_ok hp0 hL hF  g vq105 σ l0 l1 p93 bl0 b95 gq108 gq109 gq110 _ h
def k_Face_happen (F : Nat) (σ : CS) (l0 : Nat) (l1 : Int32) : Option ((Int32) × CS) := k_Face_happen_b0 F σ l0 l1
theorem k_Face_happen_ok {E : CE} {pF : Nat → List Value → xH → Option (Option Value × xH)} (hp0 : xNPc pF) (hL : lcAll E pF) (hF : lcF pF) {d : Nat} {g : CG} {σ : CS} {F : Nat} {l0 : Nat} {l1 : Int32} {res : (Int32) × CS} (bl0 : cob σ 15 l0) (h : k_Face_happen F σ l0 l1 = some res) : cCo E (cQx [10, 11, 13, 14]) pF (d + 16) 217 [.ref (coa E 15 l0), .int l1] (some (.int res.1)) res.2 g σ :=
  cCo_R kk_217 mo_217 ni_217 xm_217 (Nat.le_of_ble_eq_true rfl) (hp0 217 (by decide) _) (k_Face_happen_b0_ok hp0 hL hF g _ σ l0 l1 bl0 rfl rfl _ h)
