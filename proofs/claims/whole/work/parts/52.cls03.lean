/-! printed by wip/whole/gen_cls.py -/
/-! k_World_firstBell (191), depth 1 -/
def k_World_firstBell_b72 (F : Nat) (K4 : CS → Nat → Int32 → Int32 → Option (Int32)) (σ : CS) (l0 : Nat) (l1 : Int32) (l2 : Int32) : Option (Int32) :=
  K4 σ l0 l1 (l2 + (1 : Int32))
set_option maxRecDepth 4000 in
theorem k_World_firstBell_b72_ok {E : CE} {pF : Nat → List Value → xH → Option (Option Value × xH)} (hp0 : xNPc pF) (hL : lcAll pF) (hF : lcF pF) {d : Nat} {F : Nat} {K4 : CS → Nat → Int32 → Int32 → Option (Int32)} (hK4 : ∀ (g : CG) (lv : xL) (σ : CS) (l0 : Nat) (l1 : Int32) (l2 : Int32), (cob σ 14 l0) → (xg lv 0 = some (.ref (coa E 14 l0))) → (xg lv 1 = some (.int l1)) → (xg lv 2 = some (.int l2)) → ∀ res, K4 σ l0 l1 l2 = some res → cR E true pF (d + 0) kT191 14 3 (some FieldType.int) (some (.int res)) σ g σ (4, lv, [])) : ∀ (g : CG) (lv : xL) (σ : CS) (l0 : Nat) (l1 : Int32) (l2 : Int32), (cob σ 14 l0) → (xg lv 0 = some (.ref (coa E 14 l0))) → (xg lv 1 = some (.int l1)) → (xg lv 2 = some (.int l2)) → ∀ res, k_World_firstBell_b72 F K4 σ l0 l1 l2 = some res → cR E true pF (d + 0) kT191 14 3 (some FieldType.int) (some (.int res)) σ g σ (72, lv, []) := by
  intro g lv σ l0 l1 l2 bl0 g0 g1 g2 res h
  unfold k_World_firstBell_b72 at h
  refine cR_inc (j := 2) (v := l2 + (1 : Int32)) lk191_72 g2 rfl (by decide) (fun vq1 gq2 kq3 => ?_)
  have gq4 := kq3 0 _ (by decide) (fun e => absurd e (by decide)) g0
  have gq5 := kq3 1 _ (by decide) (fun _ => rfl) g1
  refine cR_lift (fun _ _ kk => eE_goto (t := 4) lk191_75 (by decide) kk) ?_
  exact hK4 g vq1 σ l0 l1 (l2 + (1 : Int32)) bl0 gq4 gq5 gq2 _ h
def k_World_firstBell_b70 (F : Nat) (K4 : CS → Nat → Int32 → Int32 → Option (Int32)) (σ : CS) (l0 : Nat) (l2 : Int32) : Option (Int32) :=
  k_World_firstBell_b72 F K4 σ l0 l2 l2
set_option maxRecDepth 4000 in
theorem k_World_firstBell_b70_ok {E : CE} {pF : Nat → List Value → xH → Option (Option Value × xH)} (hp0 : xNPc pF) (hL : lcAll pF) (hF : lcF pF) {d : Nat} {F : Nat} {K4 : CS → Nat → Int32 → Int32 → Option (Int32)} (hK4 : ∀ (g : CG) (lv : xL) (σ : CS) (l0 : Nat) (l1 : Int32) (l2 : Int32), (cob σ 14 l0) → (xg lv 0 = some (.ref (coa E 14 l0))) → (xg lv 1 = some (.int l1)) → (xg lv 2 = some (.int l2)) → ∀ res, K4 σ l0 l1 l2 = some res → cR E true pF (d + 0) kT191 14 3 (some FieldType.int) (some (.int res)) σ g σ (4, lv, [])) : ∀ (g : CG) (lv : xL) (σ : CS) (l0 : Nat) (l2 : Int32), (cob σ 14 l0) → (xg lv 0 = some (.ref (coa E 14 l0))) → (xg lv 2 = some (.int l2)) → ∀ res, k_World_firstBell_b70 F K4 σ l0 l2 = some res → cR E true pF (d + 0) kT191 14 3 (some FieldType.int) (some (.int res)) σ g σ (70, lv, []) := by
  intro g lv σ l0 l2 bl0 g0 g2 res h
  unfold k_World_firstBell_b70 at h
  refine cR_lift (fun _ _ kk => eE_iload_n lk191_70 g2 kk) ?_
  refine cR_stI (j := 1) lk191_71 (Or.inr ⟨_, rfl, rfl⟩) (by decide) (fun vq6 gq7 kq8 => ?_)
  have gq9 := kq8 0 _ (by decide) (fun _ => rfl) g0
  have gq10 := kq8 2 _ (by decide) (fun e => absurd e (by decide)) g2
  exact k_World_firstBell_b72_ok hp0 hL hF hK4 g vq6 σ l0 l2 l2 bl0 gq9 gq7 gq10 _ h
def k_World_firstBell_b4 (F : Nat)  : Nat → CS → Nat → Int32 → Int32 → Option (Int32)
  | 0, _, _, _, _ => none
  | n + 1, σ, l0, l1, l2 =>
    let KK := k_World_firstBell_b4 F  n
    if xc2 .ge l2 ((23 : Int32)) = true then (
      some l1
    ) else (
      (crd σ 14 l0 10 l2).bind fun x12 =>
      if xc2 .eq x12 ((-1 : Int32)) = true then (
        k_World_firstBell_b72 F KK σ l0 l1 l2
      ) else (
        if xc2 .eq l1 ((-1 : Int32)) = true then (
          k_World_firstBell_b70 F KK σ l0 l2
        ) else (
          (crd σ 14 l0 10 l2).bind fun x16 =>
          (crd σ 14 l0 10 l1).bind fun x18 =>
          if xc2 .lt x16 x18 = true then (
            k_World_firstBell_b70 F KK σ l0 l2
          ) else (
            (crd σ 14 l0 10 l2).bind fun x21 =>
            (crd σ 14 l0 10 l1).bind fun x23 =>
            if xc2 .ne x21 x23 = true then (
              k_World_firstBell_b72 F KK σ l0 l1 l2
            ) else (
              (crd σ 14 l0 11 l2).bind fun x26 =>
              (crd σ 14 l0 11 l1).bind fun x28 =>
              if xc2 .ge x26 x28 = true then (
                k_World_firstBell_b72 F KK σ l0 l1 l2
              ) else (
                k_World_firstBell_b70 F KK σ l0 l2
              )
            )
          )
        )
      )
    )
set_option maxRecDepth 4000 in
theorem k_World_firstBell_b4_ok {E : CE} {pF : Nat → List Value → xH → Option (Option Value × xH)} (hp0 : xNPc pF) (hL : lcAll pF) (hF : lcF pF) {d : Nat} {F : Nat}   : ∀ (n : Nat) (g : CG) (lv : xL) (σ : CS) (l0 : Nat) (l1 : Int32) (l2 : Int32), (cob σ 14 l0) → (xg lv 0 = some (.ref (coa E 14 l0))) → (xg lv 1 = some (.int l1)) → (xg lv 2 = some (.int l2)) → ∀ res, k_World_firstBell_b4 F  n σ l0 l1 l2 = some res → cR E true pF (d + 0) kT191 14 3 (some FieldType.int) (some (.int res)) σ g σ (4, lv, []) := by
  intro n
  induction n with
  | zero => intro g lv σ l0 l1 l2 bl0 g0 g1 g2 res h; simp [k_World_firstBell_b4] at h
  | succ n hKK =>
    intro g lv σ l0 l1 l2 bl0 g0 g1 g2 res h
    unfold k_World_firstBell_b4 at h
    dsimp only at h
    refine cR_lift (fun _ _ kk => eE_iload_n lk191_4 g2 kk) ?_
    refine cR_lift (fun _ _ kk => eE_bipush (v := 23) lk191_5 (by decide) kk) ?_
    refine cR_icmp (t := 78) lk191_7 (by decide) (fun c11 => ?_) (fun c11 => ?_)
    · rw [if_pos c11] at h
      refine cR_lift (fun _ _ kk => eE_iload_n lk191_78 g1 kk) ?_
      cases h
      exact cR_end lk191_79 rfl rfl rfl
    · rw [if_neg c11] at h
      refine cR_lift (fun _ _ kk => eE_aload_n lk191_10 g0 kk) ?_
      refine cR_getA lk191_11 rf_14_9 (by decide) bl0 ?_
      refine cR_lift (fun _ _ kk => eE_iload_n lk191_14 g2 kk) ?_
      obtain ⟨x12, h13, h⟩ := Option.bind_eq_some_iff.mp h
      refine cR_iald (cl := 14) (i := l0) (f := 10) lk191_15 (by decide) rfl bl0 h13 ?_
      refine cR_lift (fun _ _ kk => eE_iconst (v := (-1)) lk191_16 (by decide) kk) ?_
      refine cR_icmp (t := 72) lk191_17 (by decide) (fun c14 => ?_) (fun c14 => ?_)
      · rw [if_pos c14] at h
        exact k_World_firstBell_b72_ok hp0 hL hF hKK g lv σ l0 l1 l2 bl0 g0 g1 g2 _ h
      · rw [if_neg c14] at h
        refine cR_lift (fun _ _ kk => eE_iload_n lk191_20 g1 kk) ?_
        refine cR_lift (fun _ _ kk => eE_iconst (v := (-1)) lk191_21 (by decide) kk) ?_
        refine cR_icmp (t := 70) lk191_22 (by decide) (fun c15 => ?_) (fun c15 => ?_)
        · rw [if_pos c15] at h
          exact k_World_firstBell_b70_ok hp0 hL hF hKK g lv σ l0 l2 bl0 g0 g2 _ h
        · rw [if_neg c15] at h
          refine cR_lift (fun _ _ kk => eE_aload_n lk191_25 g0 kk) ?_
          refine cR_getA lk191_26 rf_14_9 (by decide) bl0 ?_
          refine cR_lift (fun _ _ kk => eE_iload_n lk191_29 g2 kk) ?_
          obtain ⟨x16, h17, h⟩ := Option.bind_eq_some_iff.mp h
          refine cR_iald (cl := 14) (i := l0) (f := 10) lk191_30 (by decide) rfl bl0 h17 ?_
          refine cR_lift (fun _ _ kk => eE_aload_n lk191_31 g0 kk) ?_
          refine cR_getA lk191_32 rf_14_9 (by decide) bl0 ?_
          refine cR_lift (fun _ _ kk => eE_iload_n lk191_35 g1 kk) ?_
          obtain ⟨x18, h19, h⟩ := Option.bind_eq_some_iff.mp h
          refine cR_iald (cl := 14) (i := l0) (f := 10) lk191_36 (by decide) rfl bl0 h19 ?_
          refine cR_icmp (t := 70) lk191_37 (by decide) (fun c20 => ?_) (fun c20 => ?_)
          · rw [if_pos c20] at h
            exact k_World_firstBell_b70_ok hp0 hL hF hKK g lv σ l0 l2 bl0 g0 g2 _ h
          · rw [if_neg c20] at h
            refine cR_lift (fun _ _ kk => eE_aload_n lk191_40 g0 kk) ?_
            refine cR_getA lk191_41 rf_14_9 (by decide) bl0 ?_
            refine cR_lift (fun _ _ kk => eE_iload_n lk191_44 g2 kk) ?_
            obtain ⟨x21, h22, h⟩ := Option.bind_eq_some_iff.mp h
            refine cR_iald (cl := 14) (i := l0) (f := 10) lk191_45 (by decide) rfl bl0 h22 ?_
            refine cR_lift (fun _ _ kk => eE_aload_n lk191_46 g0 kk) ?_
            refine cR_getA lk191_47 rf_14_9 (by decide) bl0 ?_
            refine cR_lift (fun _ _ kk => eE_iload_n lk191_50 g1 kk) ?_
            obtain ⟨x23, h24, h⟩ := Option.bind_eq_some_iff.mp h
            refine cR_iald (cl := 14) (i := l0) (f := 10) lk191_51 (by decide) rfl bl0 h24 ?_
            refine cR_icmp (t := 72) lk191_52 (by decide) (fun c25 => ?_) (fun c25 => ?_)
            · rw [if_pos c25] at h
              exact k_World_firstBell_b72_ok hp0 hL hF hKK g lv σ l0 l1 l2 bl0 g0 g1 g2 _ h
            · rw [if_neg c25] at h
              refine cR_lift (fun _ _ kk => eE_aload_n lk191_55 g0 kk) ?_
              refine cR_getA lk191_56 rf_14_15 (by decide) bl0 ?_
              refine cR_lift (fun _ _ kk => eE_iload_n lk191_59 g2 kk) ?_
              obtain ⟨x26, h27, h⟩ := Option.bind_eq_some_iff.mp h
              refine cR_iald (cl := 14) (i := l0) (f := 11) lk191_60 (by decide) rfl bl0 h27 ?_
              refine cR_lift (fun _ _ kk => eE_aload_n lk191_61 g0 kk) ?_
              refine cR_getA lk191_62 rf_14_15 (by decide) bl0 ?_
              refine cR_lift (fun _ _ kk => eE_iload_n lk191_65 g1 kk) ?_
              obtain ⟨x28, h29, h⟩ := Option.bind_eq_some_iff.mp h
              refine cR_iald (cl := 14) (i := l0) (f := 11) lk191_66 (by decide) rfl bl0 h29 ?_
              refine cR_icmp (t := 72) lk191_67 (by decide) (fun c30 => ?_) (fun c30 => ?_)
              · rw [if_pos c30] at h
                exact k_World_firstBell_b72_ok hp0 hL hF hKK g lv σ l0 l1 l2 bl0 g0 g1 g2 _ h
              · rw [if_neg c30] at h
                exact k_World_firstBell_b70_ok hp0 hL hF hKK g lv σ l0 l2 bl0 g0 g2 _ h
def k_World_firstBell_b0 (F : Nat)  (σ : CS) (l0 : Nat) : Option (Int32) :=
  k_World_firstBell_b4 F  F σ l0 ((-1 : Int32)) ((0 : Int32))
set_option maxRecDepth 4000 in
theorem k_World_firstBell_b0_ok {E : CE} {pF : Nat → List Value → xH → Option (Option Value × xH)} (hp0 : xNPc pF) (hL : lcAll pF) (hF : lcF pF) {d : Nat} {F : Nat}   : ∀ (g : CG) (lv : xL) (σ : CS) (l0 : Nat), (cob σ 14 l0) → (xg lv 0 = some (.ref (coa E 14 l0))) → ∀ res, k_World_firstBell_b0 F  σ l0 = some res → cR E true pF (d + 0) kT191 14 3 (some FieldType.int) (some (.int res)) σ g σ (0, lv, []) := by
  intro g lv σ l0 bl0 g0 res h
  unfold k_World_firstBell_b0 at h
  refine cR_lift (fun _ _ kk => eE_iconst (v := (-1)) lk191_0 (by decide) kk) ?_
  refine cR_stI (j := 1) lk191_1 (Or.inr ⟨_, rfl, rfl⟩) (by decide) (fun vq31 gq32 kq33 => ?_)
  have gq34 := kq33 0 _ (by decide) (fun _ => rfl) g0
  refine cR_lift (fun _ _ kk => eE_iconst (v := 0) lk191_2 (by decide) kk) ?_
  refine cR_stI (j := 2) lk191_3 (Or.inr ⟨_, rfl, rfl⟩) (by decide) (fun vq35 gq36 kq37 => ?_)
  have gq38 := kq37 0 _ (by decide) (fun e => absurd e (by decide)) gq34
  have gq39 := kq37 1 _ (by decide) (fun _ => rfl) gq32
  exact k_World_firstBell_b4_ok hp0 hL hF  F g vq35 σ l0 ((-1 : Int32)) ((0 : Int32)) bl0 gq38 gq39 gq36 _ h
def k_World_firstBell (F : Nat) (σ : CS) (l0 : Nat) : Option (Int32) := k_World_firstBell_b0 F σ l0
theorem k_World_firstBell_ok {E : CE} {pF : Nat → List Value → xH → Option (Option Value × xH)} (hp0 : xNPc pF) (hL : lcAll pF) (hF : lcF pF) {d : Nat} {g : CG} {σ : CS} {F : Nat} {l0 : Nat} {res : Int32} (bl0 : cob σ 14 l0) (h : k_World_firstBell F σ l0 = some res) : cCo E true pF (d + 1) 191 [.ref (coa E 14 l0)] (some (.int res)) σ g σ :=
  cCo_R kk_191 mo_191 ni_191 xm_191 (Nat.le_of_ble_eq_true rfl) (hp0 191 (by decide) _) (k_World_firstBell_b0_ok hp0 hL hF g _ σ l0 bl0 rfl _ h)
/-! k_World_firstLetter (192), depth 9 -/
def k_World_firstLetter_b25  (σ : CS) (s0 : Option Nat) : Option (Option Nat) :=
  some s0
set_option maxRecDepth 4000 in
theorem k_World_firstLetter_b25_ok {E : CE} {pF : Nat → List Value → xH → Option (Option Value × xH)} (hp0 : xNPc pF) (hL : lcAll pF) (hF : lcF pF) {d : Nat}   : ∀ (g : CG) (lv : xL) (σ : CS) (s0 : Option Nat), (∀ a, s0 = some a → cob σ 8 a) → ∀ res, k_World_firstLetter_b25  σ s0 = some res → cR E true pF (d + 8) kT192 14 1 (some (FieldType.object "AgreedStore$Letter")) (some (cvo res)) σ g σ (25, lv, [cvo s0]) := by
  intro g lv σ s0 bs0 res h
  unfold k_World_firstLetter_b25 at h
  cases h
  exact cR_end lk192_25 rfl rfl (by first | rfl | (cases s0 <;> rfl))
def k_World_firstLetter_b0  (σ : CS) (l0 : Nat) : Option (Option Nat) :=
  if xc0 .eq (clemp σ 14 l0 15) = true then (
    (clget σ 14 l0 15 ((0 : Int32))).bind fun a3 =>
    k_World_firstLetter_b25  σ (some a3)
  ) else (
    k_World_firstLetter_b25  σ none
  )
set_option maxRecDepth 4000 in
theorem k_World_firstLetter_b0_ok {E : CE} {pF : Nat → List Value → xH → Option (Option Value × xH)} (hp0 : xNPc pF) (hL : lcAll pF) (hF : lcF pF) {d : Nat}   : ∀ (g : CG) (lv : xL) (σ : CS) (l0 : Nat), (cob σ 14 l0) → (xg lv 0 = some (.ref (coa E 14 l0))) → ∀ res, k_World_firstLetter_b0  σ l0 = some res → cR E true pF (d + 8) kT192 14 1 (some (FieldType.object "AgreedStore$Letter")) (some (cvo res)) σ g σ (0, lv, []) := by
  intro g lv σ l0 bl0 g0 res h
  unfold k_World_firstLetter_b0 at h
  refine cR_lift (fun _ _ kk => eE_aload_n lk192_0 g0 kk) ?_
  refine cR_getA lk192_1 rf_14_31 (by decide) bl0 ?_
  refine cR_virtL (cl := 14) (i := l0) (f := 15) (as := []) lk192_4 mr_14_48 na_10 rfl rfl (by first | exact Nat.le_of_ble_eq_true rfl | (simp [xcat, cvo_cat, cat_i, cat_j, cat_r]; done)) wv_10 wc_10 rfl bl0 ((hL (d + 0)).2.1 E g _ 14 l0 15 rfl bl0) (fun _ => ?_)
  refine cR_if (t := 14) lk192_7 (by decide) (fun c1 => ?_) (fun c1 => ?_)
  · rw [if_pos c1] at h
    refine cR_lift (fun _ _ kk => eE_aload_n lk192_14 g0 kk) ?_
    refine cR_getA lk192_15 rf_14_31 (by decide) bl0 ?_
    refine cR_lift (fun _ _ kk => eE_iconst (v := 0) lk192_18 (by decide) kk) ?_
    obtain ⟨a3, h4, h⟩ := Option.bind_eq_some_iff.mp h
    refine cR_rep (fun _ hc => cob8 (clget_lt hc h4)) (fun b2 => ?_)
    refine cR_virtL (cl := 14) (i := l0) (f := 15) (as := [.int ((0 : Int32))]) lk192_19 mr_14_127 na_6 rfl rfl (by first | exact Nat.le_of_ble_eq_true rfl | (simp [xcat, cvo_cat, cat_i, cat_j, cat_r]; done)) wv_6 wc_6 rfl bl0 ((hL (d + 0)).2.2.1 E g _ 14 l0 15 _ _ rfl bl0 h4) (fun _ => ?_)
    refine cR_cast lk192_22 xk_14_52 b2 ?_
    exact k_World_firstLetter_b25_ok hp0 hL hF  g lv σ (some a3) (fun _ e => Option.some.inj e ▸ b2) _ h
  · rw [if_neg c1] at h
    refine cR_null lk192_10 ?_
    refine cR_lift (fun _ _ kk => eE_goto (t := 25) lk192_11 (by decide) kk) ?_
    exact k_World_firstLetter_b25_ok hp0 hL hF  g lv σ none (fun _ e => nomatch e) _ h
def k_World_firstLetter (σ : CS) (l0 : Nat) : Option (Option Nat) := k_World_firstLetter_b0 σ l0
theorem k_World_firstLetter_ok {E : CE} {pF : Nat → List Value → xH → Option (Option Value × xH)} (hp0 : xNPc pF) (hL : lcAll pF) (hF : lcF pF) {d : Nat} {g : CG} {σ : CS} {l0 : Nat} {res : Option Nat} (bl0 : cob σ 14 l0) (h : k_World_firstLetter σ l0 = some res) : cCo E true pF (d + 9) 192 [.ref (coa E 14 l0)] (some (cvo res)) σ g σ :=
  cCo_R kk_192 mo_192 ni_192 xm_192 (Nat.le_of_ble_eq_true rfl) (hp0 192 (by decide) _) (k_World_firstLetter_b0_ok hp0 hL hF g _ σ l0 bl0 rfl _ h)
theorem k_World_firstLetter_lt {E : CE} {g : CG} {σ : CS} {h0 : xH} {l0 : Nat} {res : Option Nat} (hc : CRep E g σ h0) (_ : cob σ 14 l0) (h : k_World_firstLetter σ l0 = some res) : ∀ a, res = some a → cob σ 8 a := by
  intro a ea
  subst ea
  unfold k_World_firstLetter k_World_firstLetter_b0 at h
  split at h
  · obtain ⟨x, hx, h⟩ := Option.bind_eq_some_iff.mp h
    unfold k_World_firstLetter_b25 at h
    cases h
    exact cob8 (clget_lt hc hx)
  · unfold k_World_firstLetter_b25 at h
    cases h
/-! k_World_isBefore (196), depth 1 -/
def k_World_isBefore_b44  (σ : CS) (s0 : Int32) : Option (Int32) :=
  if s0 = 0 ∨ s0 = 1 then some s0 else none
set_option maxRecDepth 4000 in
theorem k_World_isBefore_b44_ok {E : CE} {pF : Nat → List Value → xH → Option (Option Value × xH)} (hp0 : xNPc pF) (hL : lcAll pF) (hF : lcF pF) {d : Nat}   : ∀ (g : CG) (lv : xL) (σ : CS) (s0 : Int32), ∀ res, k_World_isBefore_b44  σ s0 = some res → cR E true pF (d + 0) kT196 14 3 (some FieldType.boolean) (some (.int res)) σ g σ (44, lv, [.int s0]) := by
  intro g lv σ s0 res h
  unfold k_World_isBefore_b44 at h
  by_cases z1 : s0 = 0 ∨ s0 = 1
  · rw [if_pos z1] at h; cases h
    exact cR_end lk196_44 rfl rfl (by first | (simp only [xfin, if_true, if_pos z1]; done) | simp [xfin, z1])
  · rw [if_neg z1] at h; cases h
def k_World_isBefore_b39  (σ : CS) : Option (Int32) :=
  k_World_isBefore_b44  σ ((1 : Int32))
set_option maxRecDepth 4000 in
theorem k_World_isBefore_b39_ok {E : CE} {pF : Nat → List Value → xH → Option (Option Value × xH)} (hp0 : xNPc pF) (hL : lcAll pF) (hF : lcF pF) {d : Nat}   : ∀ (g : CG) (lv : xL) (σ : CS), ∀ res, k_World_isBefore_b39  σ = some res → cR E true pF (d + 0) kT196 14 3 (some FieldType.boolean) (some (.int res)) σ g σ (39, lv, []) := by
  intro g lv σ res h
  unfold k_World_isBefore_b39 at h
  refine cR_lift (fun _ _ kk => eE_iconst (v := 1) lk196_39 (by decide) kk) ?_
  refine cR_lift (fun _ _ kk => eE_goto (t := 44) lk196_40 (by decide) kk) ?_
  exact k_World_isBefore_b44_ok hp0 hL hF  g lv σ ((1 : Int32))  _ h
def k_World_isBefore_b43  (σ : CS) : Option (Int32) :=
  k_World_isBefore_b44  σ ((0 : Int32))
set_option maxRecDepth 4000 in
theorem k_World_isBefore_b43_ok {E : CE} {pF : Nat → List Value → xH → Option (Option Value × xH)} (hp0 : xNPc pF) (hL : lcAll pF) (hF : lcF pF) {d : Nat}   : ∀ (g : CG) (lv : xL) (σ : CS), ∀ res, k_World_isBefore_b43  σ = some res → cR E true pF (d + 0) kT196 14 3 (some FieldType.boolean) (some (.int res)) σ g σ (43, lv, []) := by
  intro g lv σ res h
  unfold k_World_isBefore_b43 at h
  refine cR_lift (fun _ _ kk => eE_iconst (v := 0) lk196_43 (by decide) kk) ?_
  exact k_World_isBefore_b44_ok hp0 hL hF  g lv σ ((0 : Int32))  _ h
def k_World_isBefore_b0  (σ : CS) (l0 : Nat) (l1 : Nat) (l2 : Int32) : Option (Int32) :=
  (crd σ 14 l0 10 l2).bind fun x2 =>
  if xc2 .lt (cI σ 8 l1 0 0) x2 = true then (
    k_World_isBefore_b39  σ
  ) else (
    (crd σ 14 l0 10 l2).bind fun x5 =>
    if xc2 .ne (cI σ 8 l1 0 0) x5 = true then (
      k_World_isBefore_b43  σ
    ) else (
      (crd σ 14 l0 11 l2).bind fun x8 =>
      if xc2 .ge (cI σ 8 l1 1 0) x8 = true then (
        k_World_isBefore_b43  σ
      ) else (
        k_World_isBefore_b39  σ
      )
    )
  )
set_option maxRecDepth 4000 in
theorem k_World_isBefore_b0_ok {E : CE} {pF : Nat → List Value → xH → Option (Option Value × xH)} (hp0 : xNPc pF) (hL : lcAll pF) (hF : lcF pF) {d : Nat}   : ∀ (g : CG) (lv : xL) (σ : CS) (l0 : Nat) (l1 : Nat) (l2 : Int32), (cob σ 14 l0) → (cob σ 8 l1) → (xg lv 0 = some (.ref (coa E 14 l0))) → (xg lv 1 = some (.ref (coa E 8 l1))) → (xg lv 2 = some (.int l2)) → ∀ res, k_World_isBefore_b0  σ l0 l1 l2 = some res → cR E true pF (d + 0) kT196 14 3 (some FieldType.boolean) (some (.int res)) σ g σ (0, lv, []) := by
  intro g lv σ l0 l1 l2 bl0 bl1 g0 g1 g2 res h
  unfold k_World_isBefore_b0 at h
  refine cR_lift (fun _ _ kk => eE_aload_n lk196_0 g1 kk) ?_
  refine cR_getI lk196_1 rf_14_115 rfl bl1 ?_
  refine cR_lift (fun _ _ kk => eE_aload_n lk196_4 g0 kk) ?_
  refine cR_getA lk196_5 rf_14_9 (by decide) bl0 ?_
  refine cR_lift (fun _ _ kk => eE_iload_n lk196_8 g2 kk) ?_
  obtain ⟨x2, h3, h⟩ := Option.bind_eq_some_iff.mp h
  refine cR_iald (cl := 14) (i := l0) (f := 10) lk196_9 (by decide) rfl bl0 h3 ?_
  refine cR_icmp (t := 39) lk196_10 (by decide) (fun c4 => ?_) (fun c4 => ?_)
  · rw [if_pos c4] at h
    exact k_World_isBefore_b39_ok hp0 hL hF  g lv σ  _ h
  · rw [if_neg c4] at h
    refine cR_lift (fun _ _ kk => eE_aload_n lk196_13 g1 kk) ?_
    refine cR_getI lk196_14 rf_14_115 rfl bl1 ?_
    refine cR_lift (fun _ _ kk => eE_aload_n lk196_17 g0 kk) ?_
    refine cR_getA lk196_18 rf_14_9 (by decide) bl0 ?_
    refine cR_lift (fun _ _ kk => eE_iload_n lk196_21 g2 kk) ?_
    obtain ⟨x5, h6, h⟩ := Option.bind_eq_some_iff.mp h
    refine cR_iald (cl := 14) (i := l0) (f := 10) lk196_22 (by decide) rfl bl0 h6 ?_
    refine cR_icmp (t := 43) lk196_23 (by decide) (fun c7 => ?_) (fun c7 => ?_)
    · rw [if_pos c7] at h
      exact k_World_isBefore_b43_ok hp0 hL hF  g lv σ  _ h
    · rw [if_neg c7] at h
      refine cR_lift (fun _ _ kk => eE_aload_n lk196_26 g1 kk) ?_
      refine cR_getI lk196_27 rf_14_121 rfl bl1 ?_
      refine cR_lift (fun _ _ kk => eE_aload_n lk196_30 g0 kk) ?_
      refine cR_getA lk196_31 rf_14_15 (by decide) bl0 ?_
      refine cR_lift (fun _ _ kk => eE_iload_n lk196_34 g2 kk) ?_
      obtain ⟨x8, h9, h⟩ := Option.bind_eq_some_iff.mp h
      refine cR_iald (cl := 14) (i := l0) (f := 11) lk196_35 (by decide) rfl bl0 h9 ?_
      refine cR_icmp (t := 43) lk196_36 (by decide) (fun c10 => ?_) (fun c10 => ?_)
      · rw [if_pos c10] at h
        exact k_World_isBefore_b43_ok hp0 hL hF  g lv σ  _ h
      · rw [if_neg c10] at h
        exact k_World_isBefore_b39_ok hp0 hL hF  g lv σ  _ h
def k_World_isBefore (σ : CS) (l0 : Nat) (l1 : Nat) (l2 : Int32) : Option (Int32) := k_World_isBefore_b0 σ l0 l1 l2
theorem k_World_isBefore_ok {E : CE} {pF : Nat → List Value → xH → Option (Option Value × xH)} (hp0 : xNPc pF) (hL : lcAll pF) (hF : lcF pF) {d : Nat} {g : CG} {σ : CS} {l0 : Nat} {l1 : Nat} {l2 : Int32} {res : Int32} (bl0 : cob σ 14 l0) (bl1 : cob σ 8 l1) (h : k_World_isBefore σ l0 l1 l2 = some res) : cCo E true pF (d + 1) 196 [.ref (coa E 14 l0), .ref (coa E 8 l1), .int l2] (some (.int res)) σ g σ :=
  cCo_R kk_196 mo_196 ni_196 xm_196 (Nat.le_of_ble_eq_true rfl) (hp0 196 (by decide) _) (k_World_isBefore_b0_ok hp0 hL hF g _ σ l0 l1 l2 bl0 bl1 rfl rfl rfl _ h)
/-! k_World_takeBell (201), depth 2 -/
def k_World_takeBell_b0  (σ : CS) (l0 : Nat) (l1 : Int32) : Option (CS) :=
  (crd σ 14 l0 10 l1).bind fun x1 =>
  (some (csI σ 14 l0 0 0 x1)).bind fun σ3 =>
  (some (csI σ3 14 l0 2 0 ((cI σ3 14 l0 2 0) + ((1 : Int32))))).bind fun σ5 =>
  (k_World_hush σ5 l0 l1).bind fun p7 =>
  some p7
set_option maxRecDepth 4000 in
theorem k_World_takeBell_b0_ok {E : CE} {pF : Nat → List Value → xH → Option (Option Value × xH)} (hp0 : xNPc pF) (hL : lcAll pF) (hF : lcF pF) {d : Nat}   : ∀ (g : CG) (lv : xL) (σ : CS) (l0 : Nat) (l1 : Int32), (cob σ 14 l0) → (xg lv 0 = some (.ref (coa E 14 l0))) → (xg lv 1 = some (.int l1)) → ∀ res, k_World_takeBell_b0  σ l0 l1 = some res → cR E true pF (d + 1) kT201 14 2 none none res g σ (0, lv, []) := by
  intro g lv σ l0 l1 bl0 g0 g1 res h
  unfold k_World_takeBell_b0 at h
  refine cR_lift (fun _ _ kk => eE_aload_n lk201_0 g0 kk) ?_
  refine cR_lift (fun _ _ kk => eE_aload_n lk201_1 g0 kk) ?_
  refine cR_getA lk201_2 rf_14_9 (by decide) bl0 ?_
  refine cR_lift (fun _ _ kk => eE_iload_n lk201_5 g1 kk) ?_
  obtain ⟨x1, h2, h⟩ := Option.bind_eq_some_iff.mp h
  refine cR_iald (cl := 14) (i := l0) (f := 10) lk201_6 (by decide) rfl bl0 h2 ?_
  obtain ⟨σ3, h4, h⟩ := Option.bind_eq_some_iff.mp h
  refine cR_putI lk201_7 rf_14_77 rfl bl0 pf_14_0 rfl h4 ?_
  refine cR_lift (fun _ _ kk => eE_aload_n lk201_10 g0 kk) ?_
  refine cR_lift (fun _ _ kk => eE_dup lk201_11 rfl kk) ?_
  refine cR_getI lk201_12 rf_14_141 rfl (cob_any rfl bl0) ?_
  refine cR_lift (fun _ _ kk => eE_iconst (v := 1) lk201_15 (by decide) kk) ?_
  refine cR_lift (fun _ _ kk => eE_iadd lk201_16 kk) ?_
  obtain ⟨σ5, h6, h⟩ := Option.bind_eq_some_iff.mp h
  refine cR_putI lk201_17 rf_14_141 rfl (cob_any rfl bl0) pf_14_2 rfl h6 ?_
  refine cR_lift (fun _ _ kk => eE_aload_n lk201_20 g0 kk) ?_
  refine cR_lift (fun _ _ kk => eE_iload_n lk201_21 g1 kk) ?_
  obtain ⟨p7, h8, h⟩ := Option.bind_eq_some_iff.mp h
  refine cR_virt (cl := 14) (i := l0) (as := [.int l1]) lk201_22 mr_14_144 na_194 rfl rfl (by first | exact Nat.le_of_ble_eq_true rfl | (simp [xcat, cvo_cat, cat_i, cat_j, cat_r]; done)) wv_194 wc_194 (cob_any rfl bl0) (k_World_hush_ok hp0 hL hF (d := d + 0) (cob_any rfl bl0) h8) (fun m9  => ?_)
  cases h
  exact cR_end lk201_25 rfl rfl rfl
def k_World_takeBell (σ : CS) (l0 : Nat) (l1 : Int32) : Option (CS) := k_World_takeBell_b0 σ l0 l1
theorem k_World_takeBell_ok {E : CE} {pF : Nat → List Value → xH → Option (Option Value × xH)} (hp0 : xNPc pF) (hL : lcAll pF) (hF : lcF pF) {d : Nat} {g : CG} {σ : CS} {l0 : Nat} {l1 : Int32} {res : CS} (bl0 : cob σ 14 l0) (h : k_World_takeBell σ l0 l1 = some res) : cCo E true pF (d + 2) 201 [.ref (coa E 14 l0), .int l1] none res g σ :=
  cCo_R kk_201 mo_201 ni_201 xm_201 (Nat.le_of_ble_eq_true rfl) (hp0 201 (by decide) _) (k_World_takeBell_b0_ok hp0 hL hF g _ σ l0 l1 bl0 rfl rfl _ h)
/-! k_World_takeFirstLetter (202), depth 9 -/
def k_World_takeFirstLetter_b38  (σ : CS) : Option (CS) :=
  some σ
set_option maxRecDepth 4000 in
theorem k_World_takeFirstLetter_b38_ok {E : CE} {pF : Nat → List Value → xH → Option (Option Value × xH)} (hp0 : xNPc pF) (hL : lcAll pF) (hF : lcF pF) {d : Nat}   : ∀ (g : CG) (lv : xL) (σ : CS), ∀ res, k_World_takeFirstLetter_b38  σ = some res → cR E true pF (d + 8) kT202 14 1 none none res g σ (38, lv, []) := by
  intro g lv σ res h
  unfold k_World_takeFirstLetter_b38 at h
  cases h
  exact cR_end lk202_38 rfl rfl rfl
def k_World_takeFirstLetter_b0  (σ : CS) (l0 : Nat) : Option (CS) :=
  if xc0 .ne (clemp σ 14 l0 15) = true then (
    k_World_takeFirstLetter_b38  σ
  ) else (
    (clrem σ 14 l0 15 ((0 : Int32))).bind fun p3 =>
    (some (csI p3.2 14 l0 0 0 (cI p3.2 8 p3.1 0 0))).bind fun σ5 =>
    (some (csI σ5 14 l0 2 0 ((cI σ5 14 l0 2 0) + ((1 : Int32))))).bind fun σ7 =>
    k_World_takeFirstLetter_b38  σ7
  )
set_option maxRecDepth 4000 in
theorem k_World_takeFirstLetter_b0_ok {E : CE} {pF : Nat → List Value → xH → Option (Option Value × xH)} (hp0 : xNPc pF) (hL : lcAll pF) (hF : lcF pF) {d : Nat}   : ∀ (g : CG) (lv : xL) (σ : CS) (l0 : Nat), (cob σ 14 l0) → (xg lv 0 = some (.ref (coa E 14 l0))) → ∀ res, k_World_takeFirstLetter_b0  σ l0 = some res → cR E true pF (d + 8) kT202 14 1 none none res g σ (0, lv, []) := by
  intro g lv σ l0 bl0 g0 res h
  unfold k_World_takeFirstLetter_b0 at h
  refine cR_lift (fun _ _ kk => eE_aload_n lk202_0 g0 kk) ?_
  refine cR_getA lk202_1 rf_14_31 (by decide) bl0 ?_
  refine cR_virtL (cl := 14) (i := l0) (f := 15) (as := []) lk202_4 mr_14_48 na_10 rfl rfl (by first | exact Nat.le_of_ble_eq_true rfl | (simp [xcat, cvo_cat, cat_i, cat_j, cat_r]; done)) wv_10 wc_10 rfl bl0 ((hL (d + 0)).2.1 E g _ 14 l0 15 rfl bl0) (fun _ => ?_)
  refine cR_if (t := 38) lk202_7 (by decide) (fun c1 => ?_) (fun c1 => ?_)
  · rw [if_pos c1] at h
    exact k_World_takeFirstLetter_b38_ok hp0 hL hF  g lv σ  _ h
  · rw [if_neg c1] at h
    refine cR_lift (fun _ _ kk => eE_aload_n lk202_10 g0 kk) ?_
    refine cR_lift (fun _ _ kk => eE_aload_n lk202_11 g0 kk) ?_
    refine cR_getA lk202_12 rf_14_31 (by decide) bl0 ?_
    refine cR_lift (fun _ _ kk => eE_iconst (v := 0) lk202_15 (by decide) kk) ?_
    obtain ⟨p3, h4, h⟩ := Option.bind_eq_some_iff.mp h
    refine cR_rep (fun _ hc => clrem_lt hc h4) (fun b2 => ?_)
    refine cR_virtL (cl := 14) (i := l0) (f := 15) (c1 := p3.2) (r := some (.ref p3.1)) (as := [.int ((0 : Int32))]) lk202_16 mr_14_59 na_13 rfl rfl (by first | exact Nat.le_of_ble_eq_true rfl | (simp [xcat, cvo_cat, cat_i, cat_j, cat_r]; done)) wv_13 wc_13 rfl bl0 ((hL (d + 0)).2.2.2.2.2.1 E g _ 14 l0 15 _ p3.1 p3.2 rfl bl0 h4) (fun _ => ?_)
    refine cR_cast lk202_19 xk_14_52 b2 ?_
    refine cR_getI lk202_22 rf_14_115 rfl b2 ?_
    obtain ⟨σ5, h6, h⟩ := Option.bind_eq_some_iff.mp h
    refine cR_putI lk202_25 rf_14_77 rfl (cob_any rfl bl0) pf_14_0 rfl h6 ?_
    refine cR_lift (fun _ _ kk => eE_aload_n lk202_28 g0 kk) ?_
    refine cR_lift (fun _ _ kk => eE_dup lk202_29 rfl kk) ?_
    refine cR_getI lk202_30 rf_14_141 rfl (cob_any rfl bl0) ?_
    refine cR_lift (fun _ _ kk => eE_iconst (v := 1) lk202_33 (by decide) kk) ?_
    refine cR_lift (fun _ _ kk => eE_iadd lk202_34 kk) ?_
    obtain ⟨σ7, h8, h⟩ := Option.bind_eq_some_iff.mp h
    refine cR_putI lk202_35 rf_14_141 rfl (cob_any rfl bl0) pf_14_2 rfl h8 ?_
    exact k_World_takeFirstLetter_b38_ok hp0 hL hF  g lv σ7  _ h
def k_World_takeFirstLetter (σ : CS) (l0 : Nat) : Option (CS) := k_World_takeFirstLetter_b0 σ l0
theorem k_World_takeFirstLetter_ok {E : CE} {pF : Nat → List Value → xH → Option (Option Value × xH)} (hp0 : xNPc pF) (hL : lcAll pF) (hF : lcF pF) {d : Nat} {g : CG} {σ : CS} {l0 : Nat} {res : CS} (bl0 : cob σ 14 l0) (h : k_World_takeFirstLetter σ l0 = some res) : cCo E true pF (d + 9) 202 [.ref (coa E 14 l0)] none res g σ :=
  cCo_R kk_202 mo_202 ni_202 xm_202 (Nat.le_of_ble_eq_true rfl) (hp0 202 (by decide) _) (k_World_takeFirstLetter_b0_ok hp0 hL hF g _ σ l0 bl0 rfl _ h)
