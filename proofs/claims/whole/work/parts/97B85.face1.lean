/-! the face: throws, tape, net -/
theorem lgc_lt {x y : Int32} : xc0 .lt (lg_cmp x.toInt64 y.toInt64) = true ↔ x < y := by
  rw [c0_lt]
  unfold lg_cmp
  by_cases q : y < x
  · rw [if_pos (show x.toInt64 > y.toInt64 from Int32.toInt64_lt.mpr q)]
    constructor
    · intro z
      exact absurd z (by decide)
    · intro z
      exfalso
      rw [Int32.lt_iff_toInt_lt] at q z
      omega
  · rw [if_neg (fun z => q (Int32.toInt64_lt.mp z))]
    by_cases e : x = y
    · rw [if_pos (by rw [e])]
      constructor
      · intro z
        exact absurd z (by decide)
      · intro z
        subst e
        exact absurd z q
    · rw [if_neg (fun z => e (by
        have := congrArg Int64.toInt z
        rw [Int32.toInt_toInt64, Int32.toInt_toInt64] at this
        exact Int32.toInt_inj.mp this))]
      constructor
      · intro _
        have ne : x.toInt ≠ y.toInt := fun z => e (Int32.toInt_inj.mp z)
        rw [Int32.lt_iff_toInt_lt] at q ⊢
        omega
      · intro _
        decide
theorem lgc_gt {x y : Int32} : xc0 .gt (lg_cmp x.toInt64 y.toInt64) = true ↔ y < x := by
  rw [c0_gt]
  unfold lg_cmp
  by_cases q : y < x
  · rw [if_pos (show x.toInt64 > y.toInt64 from Int32.toInt64_lt.mpr q)]
    exact ⟨fun _ => q, fun _ => by decide⟩
  · rw [if_neg (fun z => q (Int32.toInt64_lt.mp z))]
    constructor
    · intro z
      by_cases e : x.toInt64 = y.toInt64
      · rw [if_pos e] at z
        exact absurd z (by decide)
      · rw [if_neg e] at z
        exact absurd z (by decide)
    · intro z
      exact absurd z q
theorem m_in_n {x lo hi : Int32} : m_in x.toInt64 lo.toInt64 hi.toInt64 = some (aB (aInR x lo hi)) := by
  have g : WP (m_in x.toInt64 lo.toInt64 hi.toInt64) (fun p => p = aB (aInR x lo hi)) := by
    unfold m_in m_in_b0 m_in_b17 m_in_b18 aInR
    refine WP_if lgc_lt (fun q => ?_) (fun q => ?_)
    · rw [decide_eq_false (show ¬ lo ≤ x from Int32.not_le.mpr q)]
      exact ⟨0, rfl, rfl⟩
    · refine WP_if lgc_gt (fun q2 => ?_) (fun q2 => ?_)
      · rw [decide_eq_false (show ¬ x ≤ hi from Int32.not_le.mpr q2), Bool.and_false]
        exact ⟨0, rfl, rfl⟩
      · rw [decide_eq_true (show lo ≤ x from Int32.not_lt.mp q), decide_eq_true (show x ≤ hi from Int32.not_lt.mp q2)]
        exact ⟨1, rfl, rfl⟩
  obtain ⟨x', h1, h2⟩ := g
  rw [h1, h2]
theorem WP_in {x lo' hi' : Int32} {lo hi : Int64} {β : Type} {g : Int32 → Option β} {Q : β → Prop} (h1 : lo'.toInt64 = lo) (h2 : hi'.toInt64 = hi) (k1 : aInR x lo' hi' = true → WP (g 1) Q) (k0 : aInR x lo' hi' = false → WP (g 0) Q) : WP ((m_in x.toInt64 lo hi).bind g) Q := by
  subst h1 h2
  refine WP_eq m_in_n ?_
  cases q : aInR x lo' hi' with
  | true => exact k1 q
  | false => exact k0 q
theorem WP_end {x : Int32} {β : Type} {g : Int32 → Option β} {Q : β → Prop} (k1 : aEnd x = true → WP (g 1) Q) (k0 : aEnd x = false → WP (g 0) Q) : WP ((m_isEndpoint x).bind g) Q := by
  have h : WP (m_isEndpoint x) (fun p => p = aB (aEnd x)) := by
    unfold m_isEndpoint m_isEndpoint_b0 m_isEndpoint_b26 m_isEndpoint_b31 aEnd
    refine WP_in (lo' := 0) (hi' := 6) (by decide) (by decide) (fun q => ?_) (fun q => ?_)
    · rw [q]
      exact WP_if c0_ne (fun _ => ⟨1, rfl, rfl⟩) (fun y => absurd (show ¬ (1 : Int32) = 0 by decide) y)
    · rw [q]
      refine WP_if c0_ne (fun y => absurd rfl y) (fun _ => ?_)
      refine WP_in (lo' := 8) (hi' := 15) (by decide) (by decide) (fun q2 => ?_) (fun q2 => ?_)
      · rw [q2]
        exact WP_if c0_eq (fun y => absurd (show (1 : Int32) = 0 from y) (by decide)) (fun _ => ⟨1, rfl, rfl⟩)
      · rw [q2]
        exact WP_if c0_eq (fun _ => ⟨0, rfl, rfl⟩) (fun y => absurd rfl y)
  obtain ⟨v, h1, h2⟩ := h
  rw [h1, h2]
  cases q : aEnd x with
  | true => exact k1 q
  | false => exact k0 q
/-- a call of the face: its answer, its throw, the store behind it -/
def FW (m : Option (Int32 × RS)) (r : AR) (u : AU) : Prop := WP m (fun p => RM p.2 (aI r.1 0 0 (Int32.ofNat r.2.1)) u ∧ (r.2.1 = 0 → p.1 = r.2.2))
def FV (m : Option RS) (r : AR) (u : AU) : Prop := WP m (fun p => RM p (aI r.1 0 0 (Int32.ofNat r.2.1)) u)
theorem aS_00 {a : AA} : aS (aI a 0 0 0) 0 0 = 0 := rfl
theorem FW_ok {m : Option (Int32 × RS)} {b : AA} {v : Int32} {u : AU} (h : aS b 0 0 = 0) (k : WP m (fun p => RM p.2 b u ∧ p.1 = v)) : FW m (b, 0, v) u := by
  refine WP_mono k ?_
  rintro p ⟨h1, h2⟩
  refine ⟨?_, fun _ => h2⟩
  show RM p.2 (aI b 0 0 0) u
  rw [aI_same h]
  exact h1
theorem FW_no {m : Option (Int32 × RS)} {a : AA} {k : Nat} {v : Int32} {u : AU} (hk : k ≠ 0) (h : WP m (fun p => RM p.2 (aI a 0 0 (Int32.ofNat k)) u)) : FW m (aI a 0 0 0, k, v) u := by
  refine WP_mono h ?_
  intro p hp
  refine ⟨?_, fun z => absurd z hk⟩
  show RM p.2 (aI (aI a 0 0 0) 0 0 (Int32.ofNat k)) u
  rw [aI_II]
  exact hp
/-- the throw is told -/
theorem WP_th {σ : RS} {a : AA} {u : AU} {c : Int32} {α : Type} {g : RS → Option α} {Q : α → Prop} (h : RM σ a u) (k : ∀ τ, RM τ (aI a 0 0 c) u → τ.1 0 0 = c → WP (g τ) Q) : WP ((some (setI σ 0 0 c)).bind g) Q := k _ (RM_I h (by decide)) setI_e
/-- the tape -/
theorem RM_tp {σ : RS} {a : AA} {u : AU} {t : List Int32} {σ' : RS} (h : RM σ a u) (hF : Fr [4, 5] [] σ σ') (ht : RTp σ' t) : RM σ' (aTpS a t) u := by
  exact ⟨RSc_fr hF (by decide) h.1, RWay_fr hF (by decide) h.2.1, fun s hs => RWt_fr hF (by decide) (h.2.2.1 s hs), fun l hl => RLt_fr hF (by decide) (h.2.2.2.1 l hl), fun s hs => RLog_fr hF (by decide) (h.2.2.2.2.1 s hs), fun s hs => RDk_fr hF (by decide) (h.2.2.2.2.2.1 s hs), fun s hs => RSl_fr hF (by decide) (h.2.2.2.2.2.2.1 s hs), fun s hs hu => RCh_fr hF (by decide) (h.2.2.2.2.2.2.2.1 s hs hu), fun s hs hu => RAt_fr hF (by decide) (h.2.2.2.2.2.2.2.2.1 s hs hu), fun s hs => RMc_fr hF (by decide) (h.2.2.2.2.2.2.2.2.2.1 s hs), fun s hs => RSh_fr hF (by decide) (h.2.2.2.2.2.2.2.2.2.2.1 s hs), fun s hs => RPc_fr hF (by decide) (h.2.2.2.2.2.2.2.2.2.2.2.1 s hs), fun s hs => RRq_fr hF (by decide) (h.2.2.2.2.2.2.2.2.2.2.2.2.1 s hs), RAk_fr hF (by decide) h.2.2.2.2.2.2.2.2.2.2.2.2.2.1, fun s hs => RWn_fr hF (by decide) (h.2.2.2.2.2.2.2.2.2.2.2.2.2.2.1 s hs), ht, RRe_fr hF (by decide) h.2.2.2.2.2.2.2.2.2.2.2.2.2.2.2.2.1, fun s hs => RDn_fr hF (by decide) (h.2.2.2.2.2.2.2.2.2.2.2.2.2.2.2.2.2.1 s hs), RSum_fr hF (by decide) h.2.2.2.2.2.2.2.2.2.2.2.2.2.2.2.2.2.2.1, h.2.2.2.2.2.2.2.2.2.2.2.2.2.2.2.2.2.2.2.1, h.2.2.2.2.2.2.2.2.2.2.2.2.2.2.2.2.2.2.2.2.1, h.2.2.2.2.2.2.2.2.2.2.2.2.2.2.2.2.2.2.2.2.2.1, h.2.2.2.2.2.2.2.2.2.2.2.2.2.2.2.2.2.2.2.2.2.2.1, h.2.2.2.2.2.2.2.2.2.2.2.2.2.2.2.2.2.2.2.2.2.2.2⟩
theorem M_add {F : Nat} {σ : RS} {a : AA} {u : AU} {v : Int32} (hF : 5 ≤ F) (h : RM σ a u) (hl : (aTp a).length + 4 ≤ 400) : WP (m_add F σ v) (fun τ => RM τ (aTpS a (aTp a ++ a4 v)) u) := by
  have f1 : ∀ j, j < 4 → ¬ (24 : Int32) - 8 * Int32.ofNat j < 0 := by decide
  have f2 : ∀ j, j < 4 → (24 : Int32) - 8 * Int32.ofNat j + (-8) = 24 - 8 * Int32.ofNat (j + 1) := by decide
  have f3 : ∀ j, j < 4 → aLow8 (v >>> (((24 : Int32) - 8 * Int32.ofNat j) &&& 31)) = (a4 v).getD j 0 := by
    intro j hj
    have : j = 0 ∨ j = 1 ∨ j = 2 ∨ j = 3 := by omega
    rcases this with rfl | rfl | rfl | rfl
    · rfl
    · rfl
    · rfl
    · show aLow8 (v >>> 0) = aLow8 v
      rw [Int32.shiftRight_zero]
  have key : ∀ n j (τ : RS), 5 ≤ j + n → j ≤ 4 → RM τ (aTpS a (aTp a ++ (a4 v).take j)) u → WP (m_add_b3 F n τ v ((24 : Int32) - 8 * Int32.ofNat j)) (fun τ => RM τ (aTpS a (aTp a ++ a4 v)) u) := by
    intro n
    induction n with
    | zero => intro j τ h1 h2; omega
    | succ n ih =>
      intro j τ h1 h2 h3
      unfold m_add_b3
      by_cases q : j = 4
      · subst q
        exact WP_if c0_lt (fun _ => WP_some h3) (fun y => absurd (by decide) y)
      · refine WP_if c0_lt (fun y => absurd y (f1 j (by omega))) (fun _ => ?_)
        rw [f2 j (by omega)]
        have htp := h3.2.2.2.2.2.2.2.2.2.2.2.2.2.2.2.1
        obtain ⟨t1, t2, t3, t4⟩ := id htp
        have el : (aTp (aTpS a (aTp a ++ (a4 v).take j))).length = (aTp a).length + j := by
          show (aTp a ++ (a4 v).take j).length = _
          rw [List.length_append, List.length_take]
          have : (a4 v).length = 4 := rfl
          omega
        rw [t1, el]
        refine WP_st rfl 400 (by decide +kernel) (by omega) ?_
        have e5 : (setI τ 4 ((aTp a).length + j) (((v >>> (((24 : Int32) - 8 * Int32.ofNat j) &&& 31)).toInt8.toInt32).toInt8.toInt32)).1 5 0 = Int32.ofNat ((aTp a).length + j) := by
          rw [setI_f (by decide), t1, el]
        show WP (m_add_b3 F n (setI (setI τ 4 ((aTp a).length + j) (((v >>> (((24 : Int32) - 8 * Int32.ofNat j) &&& 31)).toInt8.toInt32).toInt8.toInt32)) 5 0 ((setI τ 4 ((aTp a).length + j) (((v >>> (((24 : Int32) - 8 * Int32.ofNat j) &&& 31)).toInt8.toInt32).toInt8.toInt32)).1 5 0 + 1)) v (24 - 8 * Int32.ofNat (j + 1))) _
        rw [e5, i_s, i_b8, show (v >>> (((24 : Int32) - 8 * Int32.ofNat j) &&& 31)).toInt8.toInt32 = (a4 v).getD j 0 from f3 j (by omega)]
        refine ih (j + 1) _ (by omega) (by omega) ?_
        have et : aTp a ++ (a4 v).take (j + 1) = aTp (aTpS a (aTp a ++ (a4 v).take j)) ++ [(a4 v).getD j 0] := by
          rw [take_s (d := 0) (show j < (a4 v).length from Nat.lt_of_lt_of_le (by omega) (Nat.le_refl 4)), ← List.append_assoc]
          rfl
        have hF4 : Fr [4, 5] [] τ (setI (setI τ 4 ((aTp a).length + j) ((a4 v).getD j 0)) 5 0 (Int32.ofNat ((aTp a).length + j + 1))) := Fr_w (Fr_t Fr_I Fr_I) (by simp) (by simp)
        have hn := RM_tp (t := aTp (aTpS a (aTp a ++ (a4 v).take j)) ++ [(a4 v).getD j 0]) h3 hF4 (by
          refine ⟨?_, ?_, fun b hb => ?_, fun i hi => ?_⟩
          · rw [setI_e, List.length_append, el]
            rfl
          · rw [List.length_append, el]
            show (aTp a).length + j + 1 ≤ 400
            omega
          · rcases List.mem_append.mp hb with z | z
            · exact t3 b z
            · rw [List.mem_singleton] at z
              rw [z]
              exact a4_low (by
                rw [List.getD_eq_getElem?_getD, List.getElem?_eq_getElem (show j < (a4 v).length from Nat.lt_of_lt_of_le (by omega) (Nat.le_refl 4))]
                exact List.getElem_mem _)
          · rw [setI_f (by decide), getD_app, el]
            rw [List.length_append, el] at hi
            have hi : i < (aTp a).length + j + 1 := hi
            by_cases z : i = (aTp a).length + j
            · rw [z, setI_e, if_neg (Nat.lt_irrefl _), if_pos rfl]
            · rw [setI_i z, if_pos (by omega)]
              exact t4 i (by omega))
        rw [et]
        exact hn
  unfold m_add m_add_b0
  exact key F 0 σ (by omega) (Nat.zero_le _) (by
    have e : aTpS a (aTp a ++ (a4 v).take 0) = a := by
      rw [List.take_zero, List.append_nil]
      rfl
    rw [e]
    exact h)
theorem aTp_S {a : AA} {t : List Int32} : aTp (aTpS a t) = t := rfl
theorem F_feed {F : Nat} {σ : RS} {a : AA} {u : AU} {x : Nat → Int32} (hF : 5 ≤ F) (h : RM σ a u) : FW (m_feed F σ (x 0) (x 1) (x 2) (x 3) (x 4)) (A_feed (aI a 0 0 0) x) u := by
  obtain ⟨t1, t2, t3, t4⟩ := h.2.2.2.2.2.2.2.2.2.2.2.2.2.2.2.1
  have ec : xc2 .le (σ.1 5 0 + 20) 400 = true ↔ ¬ 400 < (aTp a).length + 20 := by
    rw [t1, show (20 : Int32) = Int32.ofNat 20 from rfl, i_ad, show (400 : Int32) = Int32.ofNat 400 from rfl, i_lei (by omega) (by omega)]
    omega
  unfold A_feed
  rw [show aTp (aI a 0 0 0) = aTp a from rfl]
  unfold m_feed m_feed_b0 m_feed_b19
  by_cases q : 400 < (aTp a).length + 20
  · rw [if_pos q]
    refine FW_no (by decide) (WP_if ec (fun y => absurd q y) (fun _ => ?_))
    refine WP_th h (fun τ hτ e0 => ?_)
    rw [e0]
    exact WP_if c0_le (fun y => absurd y (by decide)) (fun _ => WP_some hτ)
  · rw [if_neg q]
    refine FW_ok aS_00 (WP_if ec (fun _ => ?_) (fun y => absurd q y))
    refine WP_th h (fun τ hτ e0 => ?_)
    rw [e0]
    refine WP_if c0_le (fun _ => ?_) (fun y => absurd (by decide) y)
    have l4 : ∀ v : Int32, (a4 v).length = 4 := fun _ => rfl
    refine WP_call (M_add (v := x 0) hF hτ (by show (aTp a).length + 4 ≤ 400; omega)) (fun τ1 h1 => ?_)
    refine WP_call (M_add (v := x 1) hF h1 (by rw [aTp_S, List.length_append, l4]; show (aTp a).length + 4 + 4 ≤ 400; omega)) (fun τ2 h2 => ?_)
    refine WP_call (M_add (v := x 2) hF h2 (by rw [aTp_S, aTp_S, List.length_append, List.length_append, l4, l4]; show (aTp a).length + 4 + 4 + 4 ≤ 400; omega)) (fun τ3 h3 => ?_)
    refine WP_call (M_add (v := x 3) hF h3 (by rw [aTp_S, aTp_S, aTp_S, List.length_append, List.length_append, List.length_append, l4, l4, l4]; show (aTp a).length + 4 + 4 + 4 + 4 ≤ 400; omega)) (fun τ4 h4 => ?_)
    refine WP_call (M_add (v := x 4) hF h4 (by rw [aTp_S, aTp_S, aTp_S, aTp_S, List.length_append, List.length_append, List.length_append, List.length_append, l4, l4, l4, l4]; show (aTp a).length + 4 + 4 + 4 + 4 + 4 ≤ 400; omega)) (fun τ5 h5 => WP_some ⟨h5, ?_⟩)
    have t5 := (h5.2.2.2.2.2.2.2.2.2.2.2.2.2.2.2.1).1
    have e1 : (aTp a ++ a4 (x 0) ++ a4 (x 1) ++ a4 (x 2) ++ a4 (x 3) ++ a4 (x 4)).length = (aTp a).length + 4 + 4 + 4 + 4 + 4 := by
      rw [List.length_append, List.length_append, List.length_append, List.length_append, List.length_append]
      rfl
    show τ5.1 5 0 = _
    rw [t5]
    refine congrArg Int32.ofNat (Eq.trans (b := (aTp a).length + 4 + 4 + 4 + 4 + 4) e1 ?_)
    omega
theorem F_end {σ : RS} {a : AA} {u : AU} {n : Int32} (h : RM σ a u) : FW (m_end σ n) (A_end (aI a 0 0 0) n) u := by
  obtain ⟨t1, t2, t3, t4⟩ := h.2.2.2.2.2.2.2.2.2.2.2.2.2.2.2.1
  unfold A_end
  rw [show aTp (aI a 0 0 0) = aTp a from rfl]
  unfold m_end m_end_b0 m_end_b31
  have thr : ∀ k : Nat, k ≠ 0 → k < 5 → ∀ v, FW ((some (setI σ 0 0 (Int32.ofNat k))).bind fun σ1 =>
      if xc0 .le (σ1.1 0 0) = true then (
        (some (setI σ1 5 0 ((σ1.1 5 0) - (((20 : Int32)) - n)))).bind fun σ4 => some (σ4.1 5 0, σ4)
      ) else (some ((0 : Int32), σ1))) (aI a 0 0 0, k, v) u := by
    intro k hk hk5 v
    refine FW_no hk (WP_th h (fun τ hτ e0 => ?_))
    rw [e0]
    refine WP_if c0_le (fun y => ?_) (fun _ => WP_some hτ)
    rw [show (0 : Int32) = Int32.ofNat 0 from rfl, i_ltn (by omega) (by omega)] at y
    omega
  by_cases q : aInR n 0 20 = true
  · rw [q]
    simp only [Bool.not_true, Bool.false_eq_true, if_false]
    obtain ⟨m, e1, e2⟩ := in_nat2 (hi := 20) (by omega) q
    refine WP_in (lo' := 0) (hi' := 20) (by decide) (by decide) (fun _ => ?_) (fun y => by rw [q] at y; exact absurd y (by decide))
    refine WP_if c0_ne (fun _ => ?_) (fun y => absurd (show ¬ (1 : Int32) = 0 by decide) y)
    refine WP_if (p := 20 ≤ (aTp a).length) (by rw [t1, show (20 : Int32) = Int32.ofNat 20 from rfl, i_gei (by omega) (by omega)]) (fun q2 => ?_) (fun q2 => ?_)
    · rw [if_neg (by omega)]
      refine FW_ok aS_00 (WP_th h (fun τ hτ e0 => ?_))
      rw [e0]
      refine WP_if c0_le (fun _ => ?_) (fun y => absurd (by decide) y)
      obtain ⟨s1, s2, s3, s4⟩ := hτ.2.2.2.2.2.2.2.2.2.2.2.2.2.2.2.1
      have e20 : (20 : Int32) - n = Int32.ofNat (20 - m) := by rw [e1, show (20 : Int32) = Int32.ofNat 20 from rfl, i_subn (by omega)]
      have em : n.toNatClampNeg = m := by rw [e1, i_cl (by omega)]
      have e5 : τ.1 5 0 - (20 - n) = Int32.ofNat ((aTp a).length - (20 - m)) := by
        rw [e20, show τ.1 5 0 = Int32.ofNat (aTp a).length from s1, i_subn (by omega)]
      rw [e5, em]
      refine ⟨_, rfl, ?_, (show (setI τ 5 0 (Int32.ofNat ((aTp a).length - (20 - m)))).1 5 0 = Int32.ofNat ((aTp a).length - (20 - m)) from setI_e)⟩
      refine RM_tp hτ (Fr_w (Fr_I (f := 5)) (by simp) (by simp)) ⟨?_, ?_, fun b hb => t3 b (List.mem_of_mem_take hb), fun i hi => ?_⟩
      · rw [setI_e, List.length_take, Nat.min_eq_left (by omega)]
      · rw [List.length_take]
        omega
      · rw [List.length_take] at hi
        rw [setI_f (by decide), List.getD_eq_getElem?_getD, List.getElem?_take, if_pos (by omega), ← List.getD_eq_getElem?_getD]
        exact s4 i (by show i < (aTp a).length; omega)
    · rw [if_pos (by omega)]
      exact thr 2 (by decide) (by decide) 0
  · have q : aInR n 0 20 = false := by
      cases z : aInR n 0 20 with
      | true => exact absurd z q
      | false => rfl
    rw [q]
    simp only [Bool.not_false, if_true]
    refine WP_in (lo' := 0) (hi' := 20) (by decide) (by decide) (fun y => by rw [q] at y; exact absurd y (by decide)) (fun _ => ?_)
    refine WP_if c0_ne (fun y => absurd rfl y) (fun _ => ?_)
    exact thr 1 (by decide) (by decide) 0
