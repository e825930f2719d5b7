/-! the face: members, learners, handing over -/
theorem and1 {x : Int32} : x &&& 1 = 0 ∨ x &&& 1 = 1 := by
  have h : (x &&& 1).toBitVec = x.toBitVec &&& 1#32 := Int32.toBitVec_and x 1
  have h2 : x.toBitVec &&& 1#32 = 0#32 ∨ x.toBitVec &&& 1#32 = 1#32 := by
    by_cases q : x.toBitVec.getLsbD 0 = true
    · right
      apply BitVec.eq_of_getLsbD_eq
      intro i hi
      rw [BitVec.getLsbD_and]
      by_cases z : i = 0
      · rw [z, q]
        decide
      · rw [show (1#32).getLsbD i = false by rw [BitVec.getLsbD_one]; simp; omega, Bool.and_false]
    · left
      apply BitVec.eq_of_getLsbD_eq
      intro i hi
      rw [BitVec.getLsbD_and]
      by_cases z : i = 0
      · rw [z, b_false q]
        decide
      · rw [show (1#32).getLsbD i = false by rw [BitVec.getLsbD_one]; simp; omega, Bool.and_false]
        exact (BitVec.getLsbD_zero).symm
  rcases h2 with z | z
  · left
    exact Int32.toBitVec_inj.mp (h.trans z)
  · right
    exact Int32.toBitVec_inj.mp (h.trans z)
theorem xor_not {x : Int32} : x ^^^ (-1) = ~~~ x := by
  apply Int32.toBitVec_inj.mp
  rw [Int32.toBitVec_xor, Int32.toBitVec_not]
  show x.toBitVec ^^^ BitVec.allOnes 32 = _
  exact BitVec.xor_allOnes
theorem M_canChange {σ : RS} {a : AA} {u : AU} {s : Nat} (h : RM σ a u) (hs : s < 7) (hb : aS a 52 s = 0 ∨ aS a 52 s = 1) : m_canChange σ (Int32.ofNat s) = some (aB (aMayChange a s), σ) := by
  have g : WP (m_canChange σ (Int32.ofNat s)) (fun p => p = (aB (aMayChange a s), σ)) := by
    unfold m_canChange m_canChange_b0 m_canChange_b74 m_canChange_b75 aMayChange aMay
    refine WP_r7 h (by decide) hs ?_
    refine WP_if c0_eq (fun q => ?_) (fun q => ?_)
    · rw [decide_eq_false (show ¬ aS a 52 s = 1 by rw [q]; decide), Bool.false_and, Bool.false_and, Bool.false_and, Bool.false_and, Bool.false_and]
      exact WP_some rfl
    · rw [decide_eq_true (hb.resolve_left q), Bool.true_and]
      refine WP_r7 h (by decide) hs ?_
      refine WP_if c2_ne (fun q2 => ?_) (fun q2 => ?_)
      · rw [decide_eq_false q2, Bool.false_and, Bool.false_and, Bool.false_and, Bool.false_and]
        exact WP_some rfl
      · rw [decide_eq_true (Classical.not_not.mp q2), Bool.true_and]
        refine WP_r7 h (by decide) hs ?_
        refine WP_if c0_ge (fun q3 => ?_) (fun q3 => ?_)
        · rw [decide_eq_false (Int32.not_lt.mpr q3), Bool.false_and, Bool.false_and, Bool.false_and]
          exact WP_some rfl
        · rw [decide_eq_true (Int32.not_le.mp q3), Bool.true_and]
          refine WP_r7 h (by decide) hs (WP_r7 h (by decide) hs ?_)
          refine WP_if c2_ge (fun q4 => ?_) (fun q4 => ?_)
          · rw [decide_eq_false (show ¬ aLast a s - aBase a s < 200 from Int32.not_lt.mpr q4), Bool.false_and, Bool.false_and]
            exact WP_some rfl
          · rw [decide_eq_true (show aLast a s - aBase a s < 200 from Int32.not_le.mp q4), Bool.true_and]
            refine WP_r7 h (by decide) hs (WP_r7 h (by decide) hs ?_)
            refine WP_if c2_gt (fun q5 => ?_) (fun q5 => ?_)
            · rw [decide_eq_false (Int32.not_le.mpr q5), Bool.false_and]
              exact WP_some rfl
            · rw [decide_eq_true (Int32.not_lt.mp q5), Bool.true_and]
              refine WP_eq (m_fresh_n hs) ?_
              rw [RM_7 (f := 65) h (by decide) hs]
              refine WP_if c0_ne (fun q6 => ?_) (fun q6 => ?_)
              · rw [decide_eq_false q6]
                exact WP_some rfl
              · rw [decide_eq_true (Classical.not_not.mp q6)]
                exact WP_some rfl
  obtain ⟨x, h1, h2⟩ := g
  rw [h1, h2]
theorem may_may {a : AA} {s : Nat} (h : aMayChange a s = true) : aS a 52 s = 1 ∧ aS a 73 s = 3 ∧ aS a 80 s < 0 ∧ aLast a s - aBase a s < 200 := by
  unfold aMayChange aMay at h
  simp only [Bool.and_eq_true, decide_eq_true_eq] at h
  exact ⟨h.1.1.1.1.1, h.1.1.1.1.2, h.1.1.1.2, h.1.1.2⟩
theorem M_newCode {F : Nat} {σ : RS} {a : AA} {u : AU} {s : Nat} {c : Int32} (hF : 400 ≤ F) (h : RM σ a u) (hs : s < 7) (hz : u.2 s) (hz7 : u.2 (7 + s)) (hp : pRoom a s) (hm : aMayChange a s = true) : WP ((m_appendCode F σ (Int32.ofNat s) c).bind fun p14 => (m_sendAll F p14 (Int32.ofNat s) 0).bind fun p16 => if (1 : Int32) = 0 ∨ (1 : Int32) = 1 then some ((1 : Int32), p16) else none) (fun q => RM q.2 (A_sendAll (A_appendCode a s c) s false) u ∧ q.1 = 1) := by
  obtain ⟨m1, m2, m3, m4⟩ := may_may hm
  have wl := RM_wl h hs
  have hpa : pApp a s := pApp_of wl hp (by
    intro y
    rw [Int32.lt_iff_toInt_lt] at m4
    rw [Int32.le_iff_toInt_le] at y
    rw [show (200 : Int32).toInt = 200 by decide] at m4
    rw [show (300 : Int32).toInt = 300 by decide] at y
    omega)
  refine WP_call (M_appendCode hF h hs m1 hz hpa) (fun p14 h14 => ?_)
  have fa : AFr [43, 56, 64, 65, 2, 31, 32, 71] [2, 6, 8] a (A_appendCode a s c) := AFr_app
  refine WP_call (M_sendAll (bt := false) hF h14 hs hz7 (by rw [fa.1 73 (by decide)]; exact m2)) (fun p16 h16 => ?_)
  rw [if_pos (Or.inr rfl)]
  exact WP_some ⟨h16, rfl⟩
theorem EFr_newCode {a : AA} {s : Nat} {c : Int32} : EFr a (A_sendAll (A_appendCode a s c) s false) := EFr_t EFr_app EFr_sendAll
theorem F_members {F : Nat} {σ : RS} {a : AA} {u : AU} {s set : Int32} (hF : 400 ≤ F) (h : RM σ a u) (hb : ∀ s, s < 7 → (aS a 52 s = 0 ∨ aS a 52 s = 1)) (hz : ∀ s, s < 7 → u.2 s) (hz7 : ∀ s, s < 7 → u.2 (7 + s)) (hp : ∀ s, s < 7 → aMayChange a s = true → pRoom a s) : FW (m_members F σ s set) (A_members (aI a 0 0 0) s set) u := by
  unfold A_members m_members m_members_b0 m_members_b18
  dsimp only
  by_cases q1 : aInR s 0 6 = true
  · rw [q1]
    rw [Bool.not_true, if_neg (show ¬ false = true by decide)]
    refine WP_in (lo' := 0) (hi' := 6) (by decide) (by decide) (fun _ => ?_) (fun y => by rw [q1] at y; exact absurd y (by decide))
    refine WP_if c0_eq (fun y => absurd (show (1 : Int32) = 0 from y) (by decide)) (fun _ => ?_)
    refine WP_th h (fun τ hτ e0 => ?_)
    rw [e0]
    refine WP_if c0_gt (fun y => absurd y (by decide)) (fun _ => ?_)
    obtain ⟨p, e1, hp6⟩ := in_nat2 (hi := 6) (by omega) q1
    have hp7 : p < 7 := by omega
    rw [e1, i_cl (by omega)]
    have b52 : aS (aI a 0 0 0) 52 p = 0 ∨ aS (aI a 0 0 0) 52 p = 1 := hb p hp7
    have hpr : aMayChange (aI a 0 0 0) p = true → pRoom (aI a 0 0 0) p := hp p hp7
    have z0 : aS (aI a 0 0 0) 0 0 = 0 := rfl
    generalize aI a 0 0 0 = b at hτ b52 hpr z0
    refine WP_eq (M_canChange hτ hp7 b52) ?_
    have no : FW (m_members_b48 F τ) (b, 0, 0) u := by
      unfold m_members_b48
      refine FW_ok z0 ?_
      rw [if_pos (Or.inl rfl)]
      exact WP_some ⟨hτ, rfl⟩
    by_cases qm : aMayChange b p = true
    · rw [qm, Bool.true_and]
      refine WP_if c0_eq (fun y => absurd (show (1 : Int32) = 0 from y) (by decide)) (fun _ => ?_)
      by_cases q2 : aInR set 1 127 = true
      · rw [q2, Bool.true_and]
        refine WP_in (lo' := 1) (hi' := 127) (by decide) (by decide) (fun _ => ?_) (fun y => by rw [q2] at y; exact absurd y (by decide))
        refine WP_if c0_ne (fun _ => ?_) (fun y => absurd (show ¬ (1 : Int32) = 0 by decide) y)
        have loop : ∀ n k, 8 ≤ k + n → k ≤ 7 → (∀ j, j < k → (!aIn set j || aIn (aOldM (aS b 65 p)) j || (aIn (aLearn (aS b 65 p)) j && decide (aS b 75 p ≤ aS b 87 (7 * p + j)))) = true) → FW (m_members_b52 F n τ (Int32.ofNat p) set (Int32.ofNat k)) (if aKnown b p set = true then (A_sendAll (A_appendCode b p (aOldM (aS b 65 p) ||| (set <<< 7) ||| ((aLearn (aS b 65 p) &&& (~~~ set)) <<< 14))) p false, 0, 1) else (b, 0, 0)) u := by
          intro n
          induction n with
          | zero => intro k h1 h2; omega
          | succ n ih =>
            intro k h1 h2 hk
            unfold m_members_b52
            refine WP_if (p := 7 ≤ k) (i_gei (q := 7) (by omega) (by omega)) (fun y => ?_) (fun y => ?_)
            · have hkn : aKnown b p set = true := by
                unfold aKnown
                rw [List.all_eq_true]
                intro j hj
                rw [List.mem_range] at hj
                exact hk j (by omega)
              rw [if_pos hkn]
              refine WP_eq (m_old_n hp7) (WP_eq (m_learned_n hp7) ?_)
              rw [RM_7 (f := 65) hτ (by decide) hp7, xor_not, show (7 : Int32) &&& 31 = 7 from rfl, show (14 : Int32) &&& 31 = 14 from rfl]
              refine FW_ok (by rw [EFr_newCode.1 0 (by decide)]; exact z0) ?_
              exact M_newCode hF hτ hp7 (hz p hp7) (hz7 p hp7) (hpr qm) qm
            · have hk7 : k < 7 := by omega
              unfold m_members_b116 m_members_b114
              rw [i_31 (by omega), i_s]
              have no2 : (!aIn set k || aIn (aOldM (aS b 65 p)) k || (aIn (aLearn (aS b 65 p)) k && decide (aS b 75 p ≤ aS b 87 (7 * p + k)))) = false → FW (if (0 : Int32) = 0 ∨ (0 : Int32) = 1 then some ((0 : Int32), τ) else none) (if aKnown b p set = true then (A_sendAll (A_appendCode b p (aOldM (aS b 65 p) ||| (set <<< 7) ||| ((aLearn (aS b 65 p) &&& (~~~ set)) <<< 14))) p false, 0, 1) else (b, 0, 0)) u := by
                intro hf
                have hn : ¬ aKnown b p set = true := fun y => by
                  unfold aKnown at y
                  rw [List.all_eq_true] at y
                  have := y k (List.mem_range.mpr hk7)
                  rw [hf] at this
                  exact absurd this (by decide)
                rw [if_neg hn]
                unfold m_members_b48 at no
                exact no
              have yes : (!aIn set k || aIn (aOldM (aS b 65 p)) k || (aIn (aLearn (aS b 65 p)) k && decide (aS b 75 p ≤ aS b 87 (7 * p + k)))) = true → FW (m_members_b52 F n τ (Int32.ofNat p) set (Int32.ofNat (k + 1))) (if aKnown b p set = true then (A_sendAll (A_appendCode b p (aOldM (aS b 65 p) ||| (set <<< 7) ||| ((aLearn (aS b 65 p) &&& (~~~ set)) <<< 14))) p false, 0, 1) else (b, 0, 0)) u := by
                intro ht
                refine ih (k + 1) (by omega) (by omega) (fun j hj => ?_)
                by_cases z : j = k
                · rw [z]
                  exact ht
                · exact hk j (by omega)
              refine WP_if c0_eq (fun y1 => ?_) (fun y1 => ?_)
              · refine yes ?_
                rw [show aIn set k = false from decide_eq_false (by rw [y1]; decide)]
                rfl
              · have i1 : aIn set k = true := decide_eq_true (and1.resolve_left y1)
                refine WP_eq (m_old_n hp7) ?_
                rw [RM_7 (f := 65) hτ (by decide) hp7]
                refine WP_if c2_ne (fun y2 => ?_) (fun y2 => ?_)
                · have i2 : aIn (aOldM (aS b 65 p)) k = false := decide_eq_false y2
                  refine WP_eq (m_learned_n hp7) ?_
                  rw [RM_7 (f := 65) hτ (by decide) hp7]
                  refine WP_if c0_eq (fun y3 => ?_) (fun y3 => ?_)
                  · refine no2 ?_
                    rw [i1, i2, show aIn (aLearn (aS b 65 p)) k = false from decide_eq_false (by rw [y3]; decide)]
                    rfl
                  · have i3 : aIn (aLearn (aS b 65 p)) k = true := decide_eq_true (and1.resolve_left y3)
                    rw [i_7]
                    refine WP_r49 hτ (by decide) (by omega) ?_
                    refine WP_r7 hτ (by decide) hp7 ?_
                    refine WP_if c2_ge (fun y4 => ?_) (fun y4 => ?_)
                    · refine yes ?_
                      rw [i1, i2, i3, decide_eq_true y4]
                      rfl
                    · refine no2 ?_
                      rw [i1, i2, i3, decide_eq_false y4]
                      rfl
                · refine yes ?_
                  rw [i1, show aIn (aOldM (aS b 65 p)) k = true from decide_eq_true (Classical.not_not.mp y2)]
                  rfl
        exact loop F 0 (by omega) (by omega) (fun j hj => absurd hj (Nat.not_lt_zero _))
      · have q2 := b_false q2
        rw [q2, Bool.false_and, if_neg (show ¬ false = true by decide)]
        refine WP_in (lo' := 1) (hi' := 127) (by decide) (by decide) (fun y => by rw [q2] at y; exact absurd y (by decide)) (fun _ => ?_)
        exact WP_if c0_ne (fun y => absurd rfl y) (fun _ => no)
    · have qm := b_false qm
      rw [qm, Bool.false_and, Bool.false_and, if_neg (show ¬ false = true by decide)]
      exact WP_if c0_eq (fun _ => no) (fun y => absurd rfl y)
  · have q1 := b_false q1
    rw [q1]
    rw [Bool.not_false, if_pos (show true = true from rfl)]
    refine FW_no (by decide) (WP_in (lo' := 0) (hi' := 6) (by decide) (by decide) (fun y => by rw [q1] at y; exact absurd y (by decide)) (fun _ => ?_))
    refine WP_if c0_eq (fun _ => ?_) (fun y => absurd rfl y)
    refine WP_th h (fun τ hτ e0 => ?_)
    rw [e0]
    refine WP_if c0_gt (fun _ => ?_) (fun y => absurd (by decide) y)
    unfold m_members_b48
    rw [if_pos (Or.inl rfl)]
    exact WP_some hτ
theorem F_learners {F : Nat} {σ : RS} {a : AA} {u : AU} {s set : Int32} (hF : 400 ≤ F) (h : RM σ a u) (hb : ∀ s, s < 7 → (aS a 52 s = 0 ∨ aS a 52 s = 1)) (hz : ∀ s, s < 7 → u.2 s) (hz7 : ∀ s, s < 7 → u.2 (7 + s)) (hp : ∀ s, s < 7 → aMayChange a s = true → pRoom a s) : FW (m_learners F σ s set) (A_learners (aI a 0 0 0) s set) u := by
  unfold A_learners m_learners m_learners_b0 m_learners_b18
  dsimp only
  by_cases q1 : aInR s 0 6 = true
  · rw [q1]
    rw [Bool.not_true, if_neg (show ¬ false = true by decide)]
    refine WP_in (lo' := 0) (hi' := 6) (by decide) (by decide) (fun _ => ?_) (fun y => by rw [q1] at y; exact absurd y (by decide))
    refine WP_if c0_eq (fun y => absurd (show (1 : Int32) = 0 from y) (by decide)) (fun _ => ?_)
    refine WP_th h (fun τ hτ e0 => ?_)
    rw [e0]
    refine WP_if c0_gt (fun y => absurd y (by decide)) (fun _ => ?_)
    obtain ⟨p, e1, hp6⟩ := in_nat2 (hi := 6) (by omega) q1
    have hp7 : p < 7 := by omega
    rw [e1, i_cl (by omega)]
    have b52 : aS (aI a 0 0 0) 52 p = 0 ∨ aS (aI a 0 0 0) 52 p = 1 := hb p hp7
    have hpr : aMayChange (aI a 0 0 0) p = true → pRoom (aI a 0 0 0) p := hp p hp7
    have z0 : aS (aI a 0 0 0) 0 0 = 0 := rfl
    generalize aI a 0 0 0 = b at hτ b52 hpr z0
    refine WP_eq (M_canChange hτ hp7 b52) ?_
    have no : FW (m_learners_b58 F τ) (b, 0, 0) u := by
      unfold m_learners_b58
      refine FW_ok z0 ?_
      rw [if_pos (Or.inl rfl)]
      exact WP_some ⟨hτ, rfl⟩
    by_cases qm : aMayChange b p = true
    · rw [qm, Bool.true_and]
      refine WP_if c0_eq (fun y => absurd (show (1 : Int32) = 0 from y) (by decide)) (fun _ => ?_)
      by_cases q2 : aInR set 0 127 = true
      · rw [q2, Bool.true_and]
        refine WP_in (lo' := 0) (hi' := 127) (by decide) (by decide) (fun _ => ?_) (fun y => by rw [q2] at y; exact absurd y (by decide))
        refine WP_if c0_eq (fun y => absurd (show (1 : Int32) = 0 from y) (by decide)) (fun _ => ?_)
        refine WP_eq (m_old_n hp7) ?_
        rw [RM_7 (f := 65) hτ (by decide) hp7]
        refine WP_if c0_eq (fun y2 => ?_) (fun y2 => ?_)
        · rw [if_pos (decide_eq_true y2)]
          refine WP_eq (m_old_n hp7) ?_
          rw [RM_7 (f := 65) hτ (by decide) hp7, show (14 : Int32) &&& 31 = 14 from rfl]
          refine FW_ok (by rw [EFr_newCode.1 0 (by decide)]; exact z0) ?_
          exact M_newCode hF hτ hp7 (hz p hp7) (hz7 p hp7) (hpr qm) qm
        · rw [if_neg (by rw [decide_eq_false y2]; decide)]
          exact no
      · have q2 := b_false q2
        rw [q2, Bool.false_and, if_neg (show ¬ false = true by decide)]
        refine WP_in (lo' := 0) (hi' := 127) (by decide) (by decide) (fun y => by rw [q2] at y; exact absurd y (by decide)) (fun _ => ?_)
        exact WP_if c0_eq (fun _ => no) (fun y => absurd rfl y)
    · have qm := b_false qm
      rw [qm, Bool.false_and, Bool.false_and, if_neg (show ¬ false = true by decide)]
      exact WP_if c0_eq (fun _ => no) (fun y => absurd rfl y)
  · have q1 := b_false q1
    rw [q1]
    rw [Bool.not_false, if_pos (show true = true from rfl)]
    refine FW_no (by decide) (WP_in (lo' := 0) (hi' := 6) (by decide) (by decide) (fun y => by rw [q1] at y; exact absurd y (by decide)) (fun _ => ?_))
    refine WP_if c0_eq (fun _ => ?_) (fun y => absurd rfl y)
    refine WP_th h (fun τ hτ e0 => ?_)
    rw [e0]
    refine WP_if c0_gt (fun _ => ?_) (fun y => absurd (by decide) y)
    unfold m_learners_b58
    rw [if_pos (Or.inl rfl)]
    exact WP_some hτ
theorem F_hand {F : Nat} {σ : RS} {a : AA} {u : AU} {s to : Int32} (hF : 400 ≤ F) (h : RM σ a u) (hb : ∀ s, s < 7 → (aS a 52 s = 0 ∨ aS a 52 s = 1)) (hz7 : ∀ s, s < 7 → u.2 (7 + s)) : FW (m_hand F σ s to) (A_hand (aI a 0 0 0) s to) u := by
  unfold A_hand m_hand m_hand_b0 m_hand_b18
  dsimp only
  by_cases q1 : aInR s 0 6 = true
  · rw [q1]
    rw [Bool.not_true, if_neg (show ¬ false = true by decide)]
    refine WP_in (lo' := 0) (hi' := 6) (by decide) (by decide) (fun _ => ?_) (fun y => by rw [q1] at y; exact absurd y (by decide))
    refine WP_if c0_eq (fun y => absurd (show (1 : Int32) = 0 from y) (by decide)) (fun _ => ?_)
    refine WP_th h (fun τ hτ e0 => ?_)
    rw [e0]
    refine WP_if c0_gt (fun y => absurd y (by decide)) (fun _ => ?_)
    obtain ⟨p, e1, hp6⟩ := in_nat2 (hi := 6) (by omega) q1
    have hp7 : p < 7 := by omega
    rw [e1, i_cl (by omega)]
    have b52 : aS (aI a 0 0 0) 52 p = 0 ∨ aS (aI a 0 0 0) 52 p = 1 := hb p hp7
    have z0 : aS (aI a 0 0 0) 0 0 = 0 := rfl
    generalize aI a 0 0 0 = b at hτ b52 z0
    have no : FW (m_hand_b82 F τ) (b, 0, 0) u := by
      unfold m_hand_b82
      refine FW_ok z0 ?_
      rw [if_pos (Or.inl rfl)]
      exact WP_some ⟨hτ, rfl⟩
    unfold aMay
    refine WP_r7 hτ (by decide) hp7 ?_
    refine WP_if c0_eq (fun q => ?_) (fun q => ?_)
    · rw [decide_eq_false (show ¬ aS b 52 p = 1 by rw [q]; decide), Bool.false_and, Bool.false_and, Bool.false_and, Bool.false_and, Bool.false_and, if_neg (show ¬ false = true by decide)]
      exact no
    rw [decide_eq_true (b52.resolve_left q), Bool.true_and]
    refine WP_r7 hτ (by decide) hp7 ?_
    refine WP_if c2_ne (fun q2 => ?_) (fun q2 => ?_)
    · rw [decide_eq_false q2, Bool.false_and, Bool.false_and, Bool.false_and, Bool.false_and, if_neg (show ¬ false = true by decide)]
      exact no
    have q2 := Classical.not_not.mp q2
    rw [decide_eq_true q2, Bool.true_and]
    refine WP_r7 hτ (by decide) hp7 ?_
    refine WP_if c0_ge (fun q3 => ?_) (fun q3 => ?_)
    · rw [decide_eq_false (Int32.not_lt.mpr q3), Bool.false_and, Bool.false_and, Bool.false_and, if_neg (show ¬ false = true by decide)]
      exact no
    rw [decide_eq_true (Int32.not_le.mp q3), Bool.true_and]
    refine WP_in (lo' := 0) (hi' := 6) (by decide) (by decide) (fun q4 => ?_) (fun q4 => ?_)
    · refine WP_if c0_eq (fun y => absurd (show (1 : Int32) = 0 from y) (by decide)) (fun _ => ?_)
      rw [q4, Bool.true_and]
      obtain ⟨r, e2, hr6⟩ := in_nat2 (hi := 6) (by omega) q4
      have hr7 : r < 7 := by omega
      refine WP_if c2_eq (fun q5 => ?_) (fun q5 => ?_)
      · rw [decide_eq_true q5, Bool.not_true, Bool.false_and, if_neg (show ¬ false = true by decide)]
        exact no
      rw [decide_eq_false q5, Bool.not_false, Bool.true_and, e2, i_cl (by omega)]
      refine WP_eq (M_isVoter hτ hp7 (by omega)) ?_
      by_cases q6 : aVoter b p r = true
      · rw [q6, if_pos rfl]
        refine WP_if c0_ne (fun _ => ?_) (fun y => absurd (show ¬ (1 : Int32) = 0 by decide) y)
        refine WP_w7 hτ (by decide) (by decide) hp7 (fun σ1 h1 => ?_)
        rw [show σ1.1 1 0 = aNow (aI b 80 p (Int32.ofNat r)) from RM_0 h1 (by decide)]
        refine WP_w7 h1 (by decide) (by decide) hp7 (fun σ2 h2 => ?_)
        rw [show aNow (aI b 80 p (Int32.ofNat r)) = aNow b from rfl] at h2
        have f2 : AFr [80, 81] [] b (aI (aI b 80 p (Int32.ofNat r)) 81 p (aNow b)) := AFr_w (AFr_t AFr_I AFr_I) (by decide) (by decide)
        generalize aI (aI b 80 p (Int32.ofNat r)) 81 p (aNow b) = c at h2 f2
        have c0 : aS c 0 0 = 0 := by rw [f2.1 0 (by decide)]; exact z0
        have c3 : aS c 73 p = 3 := by rw [f2.1 73 (by decide)]; exact q2
        rw [i_7]
        refine WP_r49 h2 (by decide) (by omega) ?_
        refine WP_r7 h2 (by decide) hp7 ?_
        unfold m_hand_b142
        refine WP_if c2_ne (fun q7 => ?_) (fun q7 => ?_)
        · rw [if_neg (show ¬ aS c 87 (7 * p + r) = aLast c p from q7)]
          refine FW_ok (by rw [EFr_send.1 0 (by decide)]; exact c0) ?_
          refine WP_call (M_send (bt := false) hF h2 hp7 hr7 (hz7 p hp7) c3) (fun q hq => ?_)
          rw [if_pos (Or.inr rfl)]
          exact WP_some ⟨hq, rfl⟩
        · rw [if_pos (show aS c 87 (7 * p + r) = aLast c p from Classical.not_not.mp q7)]
          refine FW_ok (by rw [EFr_tell.1 0 (by decide)]; exact c0) ?_
          refine WP_call (M_tell (x7 := 0) (x6 := 0) (x12 := 0) (x10 := 0) hF h2 hp7 (wfS hr7) (Or.inr (Or.inr rfl))) (fun q hq => ?_)
          rw [if_pos (Or.inr rfl)]
          exact WP_some ⟨hq, rfl⟩
      · have q6 := b_false q6
        rw [q6, if_neg (show ¬ false = true by decide)]
        exact WP_if c0_ne (fun y => absurd rfl y) (fun _ => no)
    · rw [q4, Bool.false_and, Bool.false_and, if_neg (show ¬ false = true by decide)]
      exact WP_if c0_eq (fun _ => no) (fun y => absurd rfl y)
  · have q1 := b_false q1
    rw [q1]
    rw [Bool.not_false, if_pos (show true = true from rfl)]
    refine FW_no (by decide) (WP_in (lo' := 0) (hi' := 6) (by decide) (by decide) (fun y => by rw [q1] at y; exact absurd y (by decide)) (fun _ => ?_))
    refine WP_if c0_eq (fun _ => ?_) (fun y => absurd rfl y)
    refine WP_th h (fun τ hτ e0 => ?_)
    rw [e0]
    refine WP_if c0_gt (fun _ => ?_) (fun y => absurd (by decide) y)
    unfold m_hand_b82
    rw [if_pos (Or.inl rfl)]
    exact WP_some hτ
