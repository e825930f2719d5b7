/-! votes -/
theorem M_aVote {F : Nat} {σ : RS} {a : AA} {u : AU} {s : Nat} {f k t : Int32} {b : Bool} {K : RS → Option RS} {Q : RS → Prop} (hF : 400 ≤ F) (h : RM σ a u) (hs : s < 7) (hf : aInR f 0 6 = true ∨ aInR f 8 15 = true) (hk : k = 2 ∨ k = 4) (hK : ∀ τ, RM τ (aVote a s f k t b) u → WP (K τ) Q) : WP ((m_write σ k t (aB b) 0 0).bind fun p => (m_post F p (Int32.ofNat s) f).bind K) Q := by
  refine WP_call (M_write (l := (aU (aLet (Int32.ofNat s) f k t).1 6 (aB b), [], [], ([], []))) h rfl ?_ rfl rfl ⟨wfS hs, hf⟩ ?_) (fun p hp => ?_)
  · rcases hk with rfl | rfl <;> rfl
  · intro j v hv
    rcases hk with rfl | rfl
    · match j, hv with
      | 0, hv => exact Or.inl ⟨rfl, (Option.some.inj hv).symm⟩
      | j + 1, hv => exact absurd hv (by simp [lTd, aU, aLet])
    · match j, hv with
      | 0, hv => exact Or.inl ⟨rfl, (Option.some.inj hv).symm⟩
      | j + 1, hv => exact absurd hv (by simp [lTd, aU, aLet])
  · exact WP_call (M_postM hF hp.1 hs hp.2 rfl rfl) hK
theorem aB_0 {b : Bool} : aB b = 0 ↔ b = false := by
  cases b with
  | false => exact ⟨fun _ => rfl, fun _ => rfl⟩
  | true => exact ⟨fun y => absurd (show (1 : Int32) = 0 from y) (by decide), fun y => nomatch y⟩
theorem M_vote {F : Nat} {σ : RS} {a : AA} {u : AU} {s : Nat} {l : AL} (hF : 400 ≤ F) (h : RM σ a u) (hs : s < 7) (hf : aInR (l.1 2) 0 6 = true ∨ aInR (l.1 2) 8 15 = true) (hw : wN a < 2147483647) : WP (m_vote F σ (Int32.ofNat s) (l.1 2) (l.1 5) (l.1 7) (l.1 8)) (fun τ => RM τ (A_ask a s l) u) := by
  have b87 : ∀ (τ : RS) (c : AA) (m : Bool), RM τ c u → WP (m_vote_b87 F τ (Int32.ofNat s) (l.1 2) (aB m)) (fun τ => RM τ (aVote c s (l.1 2) 4 (aS c 53 s) m) u) := by
    intro τ c m hc
    unfold m_vote_b87
    refine WP_r7 hc (by decide) hs ?_
    refine WP_if c0_eq (fun q => ?_) (fun q => ?_)
    · rw [aB_0.mp q]
      exact M_aVote (b := false) hF hc hs hf (Or.inr rfl) (fun τ' h' => WP_some h')
    · cases m with
      | false => exact absurd rfl q
      | true => exact M_aVote (b := true) hF hc hs hf (Or.inr rfl) (fun τ' h' => WP_some h')
  have b75 : ∀ (τ : RS) (c : AA), RM τ c u → WP (m_vote_b75 F τ (Int32.ofNat s) (l.1 2) (aB true)) (fun τ => RM τ (aVote (A_drawAlarm (aI c 73 s 0) s) s (l.1 2) 4 (aS (A_drawAlarm (aI c 73 s 0) s) 53 s) true) u) := by
    intro τ c hc
    unfold m_vote_b75
    refine WP_w73 hc hs (Or.inl (by decide)) (fun σ1 h1 => ?_)
    refine WP_call (M_drawAlarm h1 hs) (fun p hp => ?_)
    exact b87 p _ true hp
  have no : (decide (l.1 5 = aS a 53 s) && (decide (aS a 54 s < 0) || decide (aS a 54 s = l.1 2)) && aAsNew a s (l.1 7) (l.1 8)) = false → WP (m_vote_b45 F σ (Int32.ofNat s) (l.1 2)) (fun τ => RM τ (A_ask a s l) u) := by
    intro e
    unfold m_vote_b45 m_vote_b46 A_ask
    dsimp only
    rw [e, if_neg (show ¬ false = true by decide)]
    refine WP_if c0_eq (fun _ => ?_) (fun y => absurd rfl y)
    exact b87 σ a false h
  have b29 : l.1 5 = aS a 53 s → (aS a 54 s < 0 ∨ aS a 54 s = l.1 2) → WP (m_vote_b29 F σ (Int32.ofNat s) (l.1 2) (l.1 7) (l.1 8)) (fun τ => RM τ (A_ask a s l) u) := by
    intro q1 q2
    have e2 : (decide (aS a 54 s < 0) || decide (aS a 54 s = l.1 2)) = true := by
      rcases q2 with q | q
      · rw [decide_eq_true q, Bool.true_or]
      · rw [decide_eq_true q, Bool.or_true]
    unfold m_vote_b29
    refine WP_eq (M_isAsNew h hs) ?_
    cases hn : aAsNew a s (l.1 7) (l.1 8) with
    | false =>
      refine WP_if c0_eq (fun _ => ?_) (fun y => absurd rfl y)
      exact no (by rw [hn, Bool.and_false])
    | true =>
      refine WP_if c0_eq (fun y => absurd (show (1 : Int32) = 0 from y) (by decide)) (fun _ => ?_)
      unfold m_vote_b46 A_ask
      dsimp only
      rw [decide_eq_true q1, e2, hn, show (true && true && true) = true from rfl, if_pos (show true = true from rfl)]
      refine WP_if c0_eq (fun y => absurd (show (1 : Int32) = 0 from y) (by decide)) (fun _ => ?_)
      refine WP_r7 h (by decide) hs ?_
      refine WP_if c2_eq (fun q3 => ?_) (fun q3 => ?_)
      · rw [if_pos q3]
        exact b75 σ a h
      · rw [if_neg q3]
        refine WP_w7 h (by decide) (by decide) hs (fun σ1 h1 => ?_)
        refine WP_call (M_writeSlot h1 hs hw) (fun p hp => ?_)
        exact b75 p _ hp
  unfold m_vote m_vote_b0
  refine WP_r7 h (by decide) hs ?_
  refine WP_if c2_ne (fun q => ?_) (fun q => ?_)
  · exact no (by rw [decide_eq_false q, Bool.false_and, Bool.false_and])
  · have q := Classical.not_not.mp q
    refine WP_r7 h (by decide) hs ?_
    refine WP_if c0_lt (fun q2 => ?_) (fun q2 => ?_)
    · exact b29 q (Or.inl q2)
    · refine WP_r7 h (by decide) hs ?_
      refine WP_if c2_ne (fun q3 => ?_) (fun q3 => ?_)
      · exact no (by rw [decide_eq_false q2, decide_eq_false q3, Bool.or_false, Bool.and_false, Bool.false_and])
      · exact b29 q (Or.inr (Classical.not_not.mp q3))
