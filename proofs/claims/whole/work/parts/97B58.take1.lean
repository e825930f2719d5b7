/-! entries come: where the follower's own run of a term begins -/
theorem aHas_of {a : AA} {s : Nat} {n : Int32} (h1 : aBase a s < n) (h2 : n ≤ aLast a s) : aHas a s n = true := by
  unfold aHas
  rw [decide_eq_true h1, decide_eq_true h2]
  rfl
theorem take_run {F : Nat} {τ : RS} {a : AA} {u : AU} {s : Nat} {f turn p : Int32} (hF : 400 ≤ F) (h : RM τ a u) (hs : s < 7) (hf : aInR f 0 6 = true ∨ aInR f 8 15 = true) (hp : p = aBase a s ∨ aHas a s p = true) : ∀ (d n : Nat) (k : Int32), k.toInt - (aBase a s).toInt - 1 ≤ d → d + 1 ≤ n → aBase a s < k → (k ≤ aBase a s + 1 ∨ (k ≤ aLast a s ∧ aTermAt a s k = aTermAt a s p)) → k.toInt ≤ 1073741824 → WP (m_take_b146 F n τ (Int32.ofNat s) f turn p k) (fun τ => RM τ (aAppended a s f 0 (aRunStart a s d k) turn) u) := by
  have wl := RM_wl h hs
  obtain ⟨w1, w2, w3, w4⟩ := id wl
  have eb : (aBase a s + 1).toInt = (aBase a s).toInt + 1 := by rw [i_addI (by rw [i_1]; omega) (by rw [i_1]; omega), i_1]
  have tell : ∀ k, WP (m_take_b184 F τ (Int32.ofNat s) f turn k) (fun τ => RM τ (aAppended a s f 0 k turn) u) := by
    intro k
    unfold m_take_b184 aAppended
    exact WP_call (M_tell hF h hs hf (Or.inl ⟨rfl, rfl, rfl, rfl⟩)) (fun q hq => WP_some hq)
  intro d
  induction d with
  | zero =>
    intro n k h1 h2 h3 h4 h5
    obtain ⟨n, rfl⟩ : ∃ m, n = m + 1 := ⟨n - 1, by omega⟩
    unfold m_take_b146
    refine WP_r7 h (by decide) hs ?_
    refine WP_if c2_le (fun q => tell k) (fun q => absurd ?_ q)
    show k ≤ aBase a s + 1
    rw [Int32.le_iff_toInt_le, eb]
    omega
  | succ d ih =>
    intro n k h1 h2 h3 h4 h5
    obtain ⟨n, rfl⟩ : ∃ m, n = m + 1 := ⟨n - 1, by omega⟩
    unfold m_take_b146 aRunStart
    refine WP_r7 h (by decide) hs ?_
    refine WP_if c2_le (fun q => ?_) (fun q => ?_)
    · rw [if_neg (fun y => Int32.not_lt.mpr q y.1)]
      exact tell k
    · have q : ¬ k ≤ aBase a s + 1 := q
      obtain ⟨k1, k2⟩ := h4.resolve_left q
      have q' : aBase a s + 1 < k := Int32.not_le.mp q
      have qi := Int32.lt_iff_toInt_lt.mp q'
      rw [eb] at qi
      have k1' := Int32.le_iff_toInt_le.mp k1
      have e1 : (k - 1).toInt = k.toInt - 1 := by rw [i_subI (by rw [i_1]; omega) (by rw [i_1]; omega), i_1]
      have hlt : aBase a s < k - 1 := by
        rw [Int32.lt_iff_toInt_lt, e1]
        omega
      have hle : k - 1 ≤ aLast a s := by
        rw [Int32.le_iff_toInt_le, e1]
        omega
      refine WP_eq (M_termAt h hs (Or.inr (aHas_of hlt hle))) ?_
      refine WP_eq (M_termAt h hs hp) ?_
      refine WP_if c2_ne (fun q2 => ?_) (fun q2 => ?_)
      · rw [if_neg (fun y => q2 (y.2.trans k2))]
        exact tell k
      · have q2 := Classical.not_not.mp q2
        rw [if_pos ⟨q', q2.trans k2.symm⟩, show k + -1 = k - 1 by rw [Int32.sub_eq_add_neg]]
        exact ih n (k - 1) (by rw [e1]; omega) (by omega) hlt (Or.inr ⟨hle, q2⟩) (by rw [e1]; omega)
