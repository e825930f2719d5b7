/-! an operation is done -/
/-- only a machine and the answer have changed -/
def SLx (s : Nat) (σ σ' : RS) : Prop := (∀ f i, ¬ mOf f i s → f ≠ 121 → f ≠ 122 → σ'.1 f i = σ.1 f i) ∧ σ'.2 = σ.2
theorem SLx_a {s : Nat} {σ σ' : RS} (h : SLa σ σ') : SLx s σ σ' := ⟨fun f i _ q1 q2 => by rw [h.1 f q1 q2], h.2⟩
theorem SLx_m {s : Nat} {σ σ' : RS} (h : SLm s σ σ') : SLx s σ σ' := ⟨fun f i q _ _ => h.1 f i q, h.2⟩
theorem SLx_t {s : Nat} {σ τ τ' : RS} (h : SLx s σ τ) (h' : SLx s τ τ') : SLx s σ τ' := ⟨fun f i q q1 q2 => (h'.1 f i q q1 q2).trans (h.1 f i q q1 q2), h'.2.trans h.2⟩
theorem An_m {s : Nat} {σ τ : RS} {l : List Int32} (h : SLm s σ τ) (z : An σ l) : An τ l := by
  obtain ⟨z1, z2, z3⟩ := z
  exact ⟨by rw [h.1 122 0 (by unfold mOf; omega)]; exact z1, z2, fun i hi => by rw [h.1 121 i (by unfold mOf; omega)]; exact z3 i hi⟩
/-- what find has found -/
theorem find_cases {σ : RS} {s : Nat} {M : AM} {sl : List Nat} {k : List Int32} (hs : s < 7) (h : RLk σ s M sl) (bk : ∀ b ∈ k, aLow8 b = b) (hk : k.length ≤ 300) : (aFind M k = none ∧ rFind s M sl k = -1) ∨ (∃ w, aFind M k = some w ∧ aRank M k < M.2.length ∧ rFind s M sl k = Int32.ofNat (128 * s + sl.getD (aRank M k) 0) ∧ 128 * s + sl.getD (aRank M k) 0 < 896 ∧ (0 : Int32) ≤ Int32.ofNat (128 * s + sl.getD (aRank M k) 0) ∧
    σ.1 115 (128 * s + sl.getD (aRank M k) 0) = Int32.ofNat w.length ∧ (∀ j, j < w.length → σ.1 117 (100 * (128 * s + sl.getD (aRank M k) 0) + j) = w.getD j 0) ∧ (∀ b ∈ w, aLow8 b = b) ∧ w.length ≤ 100) := by
  obtain ⟨w, h113, hK⟩ := h
  cases e : aFind M k with
  | none =>
    left
    refine ⟨rfl, ?_⟩
    unfold rFind
    rw [e]
    rfl
  | some x =>
    right
    have hj : aRank M k < M.2.length := by
      rw [aFind_e] at e
      by_cases z : aRank M k < M.2.length
      · exact z
      · rw [if_neg z] at e
        exact absurd e (by simp)
    have hx : x = (M.2.getD (aRank M k) ([], [])).2 := by
      rw [aFind_e, if_pos hj] at e
      by_cases z : aCmp (M.2.getD (aRank M k) ([], [])).1 k = 0
      · rw [if_pos z] at e
        exact (Option.some.inj e).symm
      · rw [if_neg z] at e
        exact absurd e (by simp)
    have hsl := sl_lt hK hj
    obtain ⟨e1, e2, e3, e4, e5⟩ := hK.2.2.2.2 _ hj
    obtain ⟨w1, w2, w3, w4⟩ := wf_get w hj
    refine ⟨x, rfl, hj, ?_, by omega, ?_, by rw [hx]; exact e3, by rw [hx]; exact e5, by rw [hx]; exact w4, by rw [hx]; exact w2⟩
    · unfold rFind
      rw [e]
      rfl
    · rw [Int32.le_iff_toInt_le, i_0, Int32.toInt_ofNat_of_lt (by omega)]
      omega
theorem take_len {b : List Int32} {k : Nat} (h : k ≤ b.length) : (b.take k).length = k := by
  rw [List.length_take]
  omega
theorem src_take {w : Nat → Int64} {at0 k : Nat} {b : List Int32} (h : ∀ j, j < b.length → rB w (at0 + j) = b.getD j 0) (hk : k ≤ b.length) : ∀ j, j < (b.take k).length → rB w (at0 + j) = (b.take k).getD j 0 := by
  intro j hj
  rw [take_len hk] at hj
  rw [h j (by omega), List.getD_eq_getElem?_getD, List.getD_eq_getElem?_getD, List.getElem?_take_of_lt hj]
theorem src_drop {w : Nat → Int64} {at0 k : Nat} {b : List Int32} (h : ∀ j, j < b.length → rB w (at0 + j) = b.getD j 0) : ∀ j, j < (b.drop k).length → rB w (at0 + k + j) = (b.drop k).getD j 0 := by
  intro j hj
  rw [List.length_drop] at hj
  rw [Nat.add_assoc, h (k + j) (by omega), List.getD_eq_getElem?_getD, List.getD_eq_getElem?_getD, List.getElem?_drop]
theorem src_b {w : Nat → Int64} {at0 : Nat} {b : List Int32} (h : ∀ j, j < b.length → rB w (at0 + j) = b.getD j 0) : ∀ x ∈ b, aLow8 x = x := by
  intro x hx
  obtain ⟨j, hj, e⟩ := List.getElem_of_mem hx
  have := h j hj
  rw [List.getD_eq_getElem?_getD, List.getElem?_eq_getElem hj] at this
  have this : rB w (at0 + j) = x := this.trans e
  rw [← this]
  exact i_b8
theorem op155 {F : Nat} {σ : RS} {s at0 k v n q : Nat} {w b : List Int32} {Q : RS → Prop} (hq : q < 896) (hw : w.length = v) (hv : v ≤ 100) (h117 : ∀ j, j < w.length → σ.1 117 (100 * q + j) = w.getD j 0) (hb : at0 + b.length ≤ 917504) (hkv : k + v ≤ b.length) (hsrc : ∀ j, j < b.length → rB (σ.2 63) (at0 + j) = b.getD j 0)
    (hQ : WP (m_operate_b207 F σ (Int32.ofNat s) (Int32.ofNat at0) (Int32.ofNat k) (Int32.ofNat v) (Int32.ofNat n) (Int32.ofNat q) (aB (decide (w = (b.drop k).take v)))) Q) :
    ∀ m j sm, v + 2 ≤ j + m → j ≤ v → (sm = true → ∀ i, i < j → w.getD i 0 = b.getD (k + i) 0) → (sm = false → w ≠ (b.drop k).take v) → WP (m_operate_b155 F m σ (Int32.ofNat s) (Int32.ofNat at0) (Int32.ofNat k) (Int32.ofNat v) (Int32.ofNat n) (Int32.ofNat q) (aB sm) (Int32.ofNat j)) Q := by
  have ext : (∀ i, i < v → w.getD i 0 = b.getD (k + i) 0) → w = (b.drop k).take v := by
    intro h
    apply List.ext_getElem
    · rw [List.length_take, List.length_drop]
      omega
    · intro i h1 h2
      have := h i (by omega)
      rw [List.getD_eq_getElem?_getD, List.getElem?_eq_getElem h1, List.getD_eq_getElem?_getD, List.getElem?_eq_getElem (by omega)] at this
      rw [List.getElem_take, List.getElem_drop]
      exact this
  intro m
  induction m with
  | zero => intro j sm h1 h2; omega
  | succ m ih =>
    intro j sm h1 h2 h3 h4
    unfold m_operate_b155
    refine WP_if (i_gei (by omega) (by omega)) (fun y => ?_) (fun y => ?_)
    · have : j = v := by omega
      subst this
      have e : sm = decide (w = (b.drop k).take j) := by
        cases sm with
        | true => exact (decide_eq_true (ext (h3 rfl))).symm
        | false => exact (decide_eq_false (h4 rfl)).symm
      rw [e]
      exact hQ
    · refine WP_if c0_eq (fun z => ?_) (fun z => ?_)
      · have e : sm = false := by revert z; cases sm <;> decide
        rw [e]
        rw [decide_eq_false (h4 e)] at hQ
        exact hQ
      · have e : sm = true := by revert z; cases sm <;> decide
        rw [show (100 : Int32) * Int32.ofNat q + Int32.ofNat j = Int32.ofNat (100 * q + j) from i_ma, show Int32.ofNat at0 + Int32.ofNat k + Int32.ofNat j = Int32.ofNat (at0 + (k + j)) by rw [i_ad, i_ad, Nat.add_assoc]]
        refine WP_ld rfl 89600 (by decide +kernel) (by omega) ?_
        refine WP_eq (m_inLog_n (by omega)) ?_
        rw [h117 j (by omega), hsrc (k + j) (by omega)]
        refine WP_if c2_ne (fun z2 => ?_) (fun z2 => ?_)
        · unfold m_operate_b199
          rw [i_s]
          refine ih (j + 1) false (by omega) (by omega) (fun x => absurd x (by decide)) (fun _ x => z2 ?_)
          rw [x]
          rw [List.getD_eq_getElem?_getD, List.getElem?_take_of_lt (by omega), List.getElem?_drop, List.getD_eq_getElem?_getD]
        · unfold m_operate_b199
          rw [i_s]
          refine ih (j + 1) true (by omega) (by omega) (fun _ i hi => ?_) (fun x => absurd x (by decide))
          by_cases z3 : i = j
          · rw [z3]
            exact Classical.not_not.mp z2
          · exact h3 e i (by omega)
theorem m_operate_n {F : Nat} {σ : RS} {s at0 k v : Nat} {kd : Int32} {M : AM} {b : List Int32} (hF : 400 ≤ F) (hs : s < 7) (h : RMc σ s M) (hkd : kd = 0 ∨ kd = 1 ∨ kd = 2) (hk : k ≤ 32) (hb : at0 + b.length ≤ 917504) (hsrc : ∀ j, j < b.length → rB (σ.2 63) (at0 + j) = b.getD j 0) (hkb : k ≤ b.length)
    (h0 : kd = 0 → b.length - k ≤ 100) (h1 : kd = 1 → v ≤ 100 ∧ k + v ≤ b.length ∧ b.length - k - v ≤ 100) :
    WP (m_operate F σ (Int32.ofNat s) kd (Int32.ofNat at0) (Int32.ofNat k) (Int32.ofNat v) (Int32.ofNat b.length)) (fun τ => SLx s σ τ ∧ RMc τ s (aOp M kd k v b).1 ∧ An τ (aOp M kd k v b).2) := by
  have bb := src_b hsrc
  have bk : ∀ x ∈ b.take k, aLow8 x = x := fun x hx => bb x (List.mem_of_mem_take hx)
  have hkl := take_len hkb
  unfold m_operate m_operate_b0
  have a0 : SLa σ (setI σ 122 0 0) := SLa_I SLa_refl (Or.inr rfl)
  have n0 : An (setI σ 122 0 0) [] := ⟨setI_e, by simp, fun i hi => absurd hi (Nat.not_lt_zero _)⟩
  show WP ((m_find F (setI σ 122 0 0) (Int32.ofNat s) 0 (Int32.ofNat at0) (Int32.ofNat k)).bind _) _
  have hm0 := RMc_a a0 h
  have hsrc0 : ∀ j, j < b.length → rB ((setI σ 122 0 0).2 63) (at0 + j) = b.getD j 0 := hsrc
  generalize setI σ 122 0 0 = σ0 at a0 n0 hm0 hsrc0
  obtain ⟨sl, hlk⟩ := RMc_k hm0
  have hfnd := m_find_n (at0 := at0) (slot := 0) (k := b.take k) hF hs hlk (Or.inl ⟨rfl, by rw [hkl]; omega, src_take hsrc0 hkb⟩) (by omega)
  rw [hkl] at hfnd
  refine WP_eq hfnd ?_
  have fc := find_cases hs hlk bk (by omega)
  -- keep with what comes behind the key
  have keeps : ∀ (σ1 : RS) (d : Nat), RMc σ1 s M → σ1.2 = σ0.2 → k + d ≤ b.length → b.length - k - d ≤ 100 → WP (m_keep F σ1 (Int32.ofNat s) (Int32.ofNat at0) (Int32.ofNat k) (Int32.ofNat (at0 + (k + d))) (Int32.ofNat (b.length - k - d))) (fun p => match aKeep M (b.take k) (b.drop (k + d)) with
      | none => p.1 = 0 ∧ p.2 = σ1
      | some M' => p.1 = 1 ∧ SLm s σ1 p.2 ∧ RMc p.2 s M') := by
    intro σ1 d hm1 e1 hd hd2
    have := m_keep_n (at0 := at0) (fr := at0 + (k + d)) (k := b.take k) (v := b.drop (k + d)) hF hs hm1 (by omega) (by rw [List.length_drop]; omega) bk (fun x hx => bb x (List.mem_of_mem_drop hx)) (by omega) (by rw [List.length_drop]; omega) (by rw [e1]; exact src_take hsrc0 hkb) (by rw [e1]; exact src_drop hsrc0)
    rw [hkl, List.length_drop, show b.length - (k + d) = b.length - k - d by omega] at this
    exact this
  refine WP_if c0_ne (fun q0 => ?_) (fun q0 => ?_)
  · refine WP_if c2_ne (fun q2 => ?_) (fun q2 => ?_)
    · -- compared first
      have ek : kd = 1 := by rcases hkd with z | z | z; exact absurd z q0; exact z; exact absurd z q2
      obtain ⟨hv, hkv, hrest⟩ := h1 ek
      have eop : aOp M kd k v b = (match aFind M (b.take k) with
        | none => (M, [3])
        | some w => if w = (b.drop k).take v then
            match aKeep M (b.take k) (b.drop (k + v)) with
            | some M' => (M', [1])
            | none => (M, [2])
          else (M, 0 :: w)) := by
        unfold aOp
        dsimp only
        rw [if_neg (by rw [ek]; decide), if_pos ek]
        rfl
      rcases fc with ⟨f1, f2⟩ | ⟨w, f1, f2, f3, f4, f5, f6, f7, f8, f9⟩
      · rw [f2]
        rw [eop, f1]
        refine WP_if c0_ge (fun y => absurd (show (0 : Int32) ≤ -1 from y) (by decide)) (fun _ => ?_)
        refine WP_call (An_say n0 (by simp)) (fun p hp => ?_)
        unfold m_operate_b261
        exact WP_some ⟨SLx_t (SLx_a a0) (SLx_a hp.1), RMc_a hp.1 hm0, hp.2⟩
      · rw [f3]
        refine WP_if c0_ge (fun _ => ?_) (fun y => absurd f5 y)
        refine WP_ld rfl 896 (by decide +kernel) f4 ?_
        rw [f6]
        -- what follows when it is known whether they are the same
        have g207 : ∀ sm : Bool, sm = decide (w = (b.drop k).take v) → WP (m_operate_b207 F σ0 (Int32.ofNat s) (Int32.ofNat at0) (Int32.ofNat k) (Int32.ofNat v) (Int32.ofNat b.length) (Int32.ofNat (128 * s + sl.getD (aRank M (b.take k)) 0)) (aB sm)) (fun τ => SLx s σ τ ∧ RMc τ s (aOp M kd k v b).1 ∧ An τ (aOp M kd k v b).2) := by
          intro sm hsm
          rw [eop, f1]
          dsimp only
          unfold m_operate_b207 m_operate_b258 m_operate_b261
          cases hsm2 : sm with
          | true =>
            have hw : w = (b.drop k).take v := of_decide_eq_true (hsm ▸ hsm2)
            rw [if_pos hw]
            refine WP_if c0_ne (fun _ => ?_) (fun y => absurd y (by decide))
            rw [show Int32.ofNat at0 + Int32.ofNat k + Int32.ofNat v = Int32.ofNat (at0 + (k + v)) by rw [i_ad, i_ad, Nat.add_assoc], i_subn hkb, i_subn (by omega)]
            refine WP_call (keeps σ0 v hm0 rfl hkv hrest) (fun p hp => ?_)
            cases e : aKeep M (b.take k) (b.drop (k + v)) with
            | none =>
              rw [e] at hp
              obtain ⟨p1, p2⟩ := hp
              rw [p1, p2]
              refine WP_if c0_eq (fun _ => ?_) (fun y => absurd rfl y)
              refine WP_call (An_say n0 (by simp)) (fun p3 hp3 => ?_)
              exact WP_some ⟨SLx_t (SLx_a a0) (SLx_a hp3.1), RMc_a hp3.1 hm0, hp3.2⟩
            | some M' =>
              rw [e] at hp
              obtain ⟨p1, p2, p3⟩ := hp
              rw [p1]
              refine WP_if c0_eq (fun y => absurd y (by decide)) (fun _ => ?_)
              refine WP_call (An_say (An_m p2 n0) (by simp)) (fun p4 hp4 => ?_)
              exact WP_some ⟨SLx_t (SLx_a a0) (SLx_t (SLx_m p2) (SLx_a hp4.1)), RMc_a hp4.1 p3, hp4.2⟩
          | false =>
            have hw : ¬ w = (b.drop k).take v := of_decide_eq_false (hsm ▸ hsm2)
            rw [if_neg hw]
            refine WP_if c0_ne (fun y => absurd rfl y) (fun _ => ?_)
            refine WP_call (An_say n0 (by simp)) (fun p3 hp3 => ?_)
            refine WP_call (An_tell hF hp3.2 f4 (by rw [hp3.1.1 115 (by decide) (by decide)]; exact f6) (by rw [hp3.1.1 117 (by decide) (by decide)]; exact f7) f8 f9 (by simp; omega)) (fun p4 hp4 => ?_)
            exact WP_some ⟨SLx_t (SLx_a a0) (SLx_t (SLx_a hp3.1) (SLx_a hp4.1)), RMc_a hp4.1 (RMc_a hp3.1 hm0), hp4.2⟩
        unfold m_operate_b150
        by_cases hwv : w.length = v
        · refine WP_if c2_ne (fun y => absurd (by rw [hwv]) y) (fun _ => ?_)
          exact op155 f4 hwv hv f7 hb hkv hsrc0 (g207 _ rfl) F 0 true (by omega) (Nat.zero_le _) (fun _ i hi => absurd hi (Nat.not_lt_zero _)) (fun x => absurd x (by decide))
        · have hne : w ≠ (b.drop k).take v := by
            intro z
            apply hwv
            rw [z, List.length_take, List.length_drop]
            omega
          refine WP_if c2_ne (fun _ => ?_) (fun y => ?_)
          · have g := g207 false (decide_eq_false hne).symm
            obtain ⟨m, rfl⟩ : ∃ m, F = m + 1 := ⟨F - 1, by omega⟩
            conv => enter [1]; unfold m_operate_b155
            refine WP_if c2_ge (fun _ => g) (fun _ => ?_)
            exact WP_if c0_eq (fun _ => g) (fun y => absurd rfl y)
          · exact absurd ((i_eqi (by omega) (by omega)).mp (Classical.not_not.mp y)) hwv
    · -- removed
      have ek : kd = 2 := Classical.not_not.mp q2
      have eop : aOp M kd k v b = (match aFind M (b.take k) with
        | none => (M, [0])
        | some w => (aForget M (b.take k), 1 :: w)) := by
        unfold aOp
        dsimp only
        rw [if_neg (by rw [ek]; decide), if_neg (by rw [ek]; decide)]
        rfl
      unfold m_operate_b95 m_operate_b261
      rcases fc with ⟨f1, f2⟩ | ⟨w, f1, f2, f3, f4, f5, f6, f7, f8, f9⟩
      · rw [f2, eop, f1]
        refine WP_if c0_ge (fun y => absurd (show (0 : Int32) ≤ -1 from y) (by decide)) (fun _ => ?_)
        refine WP_call (An_say n0 (by simp)) (fun p hp => ?_)
        refine WP_if c0_ge (fun y => absurd (show (0 : Int32) ≤ -1 from y) (by decide)) (fun _ => ?_)
        exact WP_some ⟨SLx_t (SLx_a a0) (SLx_a hp.1), RMc_a hp.1 hm0, hp.2⟩
      · rw [f3, eop, f1]
        refine WP_if c0_ge (fun _ => ?_) (fun y => absurd f5 y)
        refine WP_call (An_say n0 (by simp)) (fun p hp => ?_)
        refine WP_if c0_ge (fun _ => ?_) (fun y => absurd f5 y)
        refine WP_call (An_tell hF hp.2 f4 (by rw [hp.1.1 115 (by decide) (by decide)]; exact f6) (by rw [hp.1.1 117 (by decide) (by decide)]; exact f7) f8 f9 (by simp; omega)) (fun p4 hp4 => ?_)
        have a4 := SLa_t hp.1 hp4.1
        refine WP_call (m_forget_n hF hs (RMc_a a4 hm0) (RLk_a a4 hlk) f2) (fun p5 hp5 => ?_)
        exact WP_some ⟨SLx_t (SLx_a a0) (SLx_t (SLx_a a4) (SLx_m hp5.1)), hp5.2, An_m hp5.1 hp4.2⟩
  · -- put
    have ek : kd = 0 := Classical.not_not.mp q0
    have hrest := h0 ek
    have eop : aOp M kd k v b = (match aKeep M (b.take k) (b.drop k) with
      | some M' => (M', match aFind M (b.take k) with
        | some w => 1 :: w
        | none => [0])
      | none => (M, [2])) := by
      unfold aOp
      dsimp only
      rw [if_pos ek]
      rfl
    have g45 : ∀ (σ1 : RS) (l : List Int32), SLa σ0 σ1 → An σ1 l → l = (match aFind M (b.take k) with
        | some w => 1 :: w
        | none => [0]) → WP (m_operate_b45 F σ1 (Int32.ofNat s) (Int32.ofNat at0) (Int32.ofNat k) (Int32.ofNat b.length)) (fun τ => SLx s σ τ ∧ RMc τ s (aOp M kd k v b).1 ∧ An τ (aOp M kd k v b).2) := by
      intro σ1 l s1 s2 s3
      unfold m_operate_b45 m_operate_b261
      rw [i_ad, i_subn hkb]
      refine WP_call (keeps σ1 0 (RMc_a s1 hm0) s1.2 hkb (by omega)) (fun p hp => ?_)
      rw [eop]
      rw [Nat.add_zero] at hp
      cases e : aKeep M (b.take k) (b.drop k) with
      | none =>
        rw [e] at hp
        obtain ⟨p1, p2⟩ := hp
        rw [p1, p2]
        refine WP_if c0_eq (fun _ => ?_) (fun y => absurd rfl y)
        have a1 : SLa σ1 (setI σ1 122 0 0) := SLa_I SLa_refl (Or.inr rfl)
        have n1 : An (setI σ1 122 0 0) [] := ⟨setI_e, by simp, fun i hi => absurd hi (Nat.not_lt_zero _)⟩
        show WP ((m_say (setI σ1 122 0 0) 2).bind _) _
        refine WP_call (An_say n1 (by simp)) (fun p3 hp3 => ?_)
        have a3 := SLa_t s1 (SLa_t a1 hp3.1)
        exact WP_some ⟨SLx_t (SLx_a a0) (SLx_a a3), RMc_a a3 hm0, hp3.2⟩
      | some M' =>
        rw [e] at hp
        obtain ⟨p1, p2, p3⟩ := hp
        rw [p1]
        refine WP_if c0_eq (fun y => absurd y (by decide)) (fun _ => ?_)
        refine WP_some ⟨SLx_t (SLx_a a0) (SLx_t (SLx_a s1) (SLx_m p2)), p3, ?_⟩
        dsimp only
        rw [← s3]
        exact An_m p2 s2
    unfold m_operate_b31
    rcases fc with ⟨f1, f2⟩ | ⟨w, f1, f2, f3, f4, f5, f6, f7, f8, f9⟩
    · rw [f2]
      refine WP_if c0_ge (fun y => absurd (show (0 : Int32) ≤ -1 from y) (by decide)) (fun _ => ?_)
      refine WP_call (An_say n0 (by simp)) (fun p hp => ?_)
      refine WP_if c0_lt (fun _ => ?_) (fun y => absurd (show (-1 : Int32) < 0 by decide) y)
      exact g45 p _ hp.1 hp.2 (by rw [f1]; rfl)
    · rw [f3]
      refine WP_if c0_ge (fun _ => ?_) (fun y => absurd f5 y)
      refine WP_call (An_say n0 (by simp)) (fun p hp => ?_)
      refine WP_if c0_lt (fun y => absurd f5 (i_nle.mpr y)) (fun _ => ?_)
      refine WP_call (An_tell hF hp.2 f4 (by rw [hp.1.1 115 (by decide) (by decide)]; exact f6) (by rw [hp.1.1 117 (by decide) (by decide)]; exact f7) f8 f9 (by simp; omega)) (fun p4 hp4 => ?_)
      exact g45 p4 _ (SLa_t hp.1 hp4.1) hp4.2 (by rw [f1]; rfl)
