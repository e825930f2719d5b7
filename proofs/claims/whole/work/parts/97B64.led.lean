/-! the leader's letters come -/
theorem td57 {σ : RS} {a : AA} {u : AU} {l : AL} (h : RM σ a u) (hl : u.1.1 = some l) : (l.1 4 = 5 → σ.1 12 2827 = l.1 10) ∧ (l.1 4 = 7 → σ.1 12 2830 = l.1 10 ∧ σ.1 12 2824 = l.1 7) := by
  obtain ⟨_, _, _, _, _, _, _, _, g, _⟩ := h_inl h hl
  constructor
  · intro h5
    refine g 3 _ ?_
    unfold lTd
    dsimp only
    rw [if_neg (by rw [h5]; decide), if_neg (by rw [h5]; decide), if_pos h5]
    rfl
  · intro h7
    have e : ∀ j, lTd (aAk a) l j = [l.1 7, l.1 8, l.1 11, l.1 12, l.1 13, l.1 17, l.1 10][j]? := by
      intro j
      unfold lTd
      dsimp only
      rw [if_neg (by rw [h7]; decide), if_neg (by rw [h7]; decide), if_neg (by rw [h7]; decide), if_neg (by rw [h7]; decide), if_pos h7]
    exact ⟨g 6 _ (e 6), g 0 _ (e 0)⟩
def led1 (a : AA) (s : Nat) (l : AL) : AA := A_drawAlarm (aI (A_stepDown a s (aS a 53 s) (l.1 2)) 78 s (aNow a)) s
theorem M_led {F : Nat} {σ : RS} {a : AA} {u : AU} {s : Nat} {l : AL} (hF : 20000 ≤ F) (h : RM σ a u) (hs : s < 7) (hl : u.1.1 = some l) (hk : l.1 4 = 5 ∨ l.1 4 = 7) (hf : aInR (l.1 2) 0 6 = true ∨ aInR (l.1 2) 8 15 = true) (hw : wN a < 2147483647)
    (ht : ¬ aS a 73 s = 3 → l.1 4 = 5 → ∀ τ, RM τ (led1 a s l) u → WP (m_take F τ (Int32.ofNat s) (l.1 2) (l.1 10)) (fun τ => RM τ (A_take (led1 a s l) s l) u))
    (ha : ¬ aS a 73 s = 3 → l.1 4 = 7 → ∀ τ, RM τ (led1 a s l) u → WP (m_assemble F τ (Int32.ofNat s) (l.1 2) (l.1 10)) (fun τ => RM τ (A_assemble (led1 a s l) s l) u)) : WP (m_led F σ (Int32.ofNat s) (l.1 2) (l.1 4) (l.1 5)) (fun τ => RM τ (A_led a s l) u) := by
  obtain ⟨t5, t7⟩ := td57 h hl
  have ready : ¬ l.1 5 < aS a 53 s → ¬ aS a 73 s = 3 → ∀ (K : RS → Option RS), (∀ τ, RM τ (led1 a s l) u → WP (K τ) (fun τ => RM τ (A_led a s l) u)) → WP ((rld σ 53 (Int32.ofNat s)).bind fun x17 => (m_stepDown F σ (Int32.ofNat s) x17 (l.1 2)).bind fun p19 => (rst p19 78 (Int32.ofNat s) ((p19.1 1 0))).bind fun σ21 => (m_drawAlarm σ21 (Int32.ofNat s)).bind K) (fun τ => RM τ (A_led a s l) u) := by
    intro q1 q2 K hK
    refine WP_r7 h (by decide) hs ?_
    refine WP_call (M_stepDown (by omega) h hs hw) (fun p hp => ?_)
    have fr := @AFr_stepDown a s (aS a 53 s) (l.1 2)
    rw [RM_0 (f := 1) hp (by decide), fr.1 1 (by decide)]
    refine WP_w7 hp (by decide) (by decide) hs (fun σ1 h1 => ?_)
    exact WP_call (M_drawAlarm h1 hs) (fun p2 hp2 => hK p2 hp2)
  have early : l.1 5 < aS a 53 s → A_led a s l = if l.1 4 = 5 then aAppended a s (l.1 2) 0 0 0 else aStored a s (l.1 2) (l.1 7) 0 0 := fun q => if_pos q
  have busy : ¬ l.1 5 < aS a 53 s → aS a 73 s = 3 → A_led a s l = a := by
    intro q1 q2
    unfold A_led
    rw [if_neg q1, if_pos q2]
  have on : ¬ l.1 5 < aS a 53 s → ¬ aS a 73 s = 3 → A_led a s l = if l.1 4 = 5 then A_take (led1 a s l) s l else A_assemble (led1 a s l) s l := by
    intro q1 q2
    unfold A_led
    rw [if_neg q1, if_neg q2]
    rfl
  unfold m_led m_led_b0
  rcases hk with k | k
  · rw [k]
    refine WP_if c2_ne (fun y => absurd rfl y) (fun _ => ?_)
    unfold m_led_b18
    refine WP_ld (n := 2827) rfl 2832 (by decide +kernel) (by omega) ?_
    rw [t5 k]
    refine WP_r7 h (by decide) hs ?_
    refine WP_if c2_ge (fun q => ?_) (fun q => ?_)
    · have q : ¬ l.1 5 < aS a 53 s := Int32.not_lt.mpr q
      refine WP_r7 h (by decide) hs ?_
      refine WP_if c2_ne (fun q2 => ?_) (fun q2 => ?_)
      · refine ready q q2 _ (fun τ hτ => ?_)
        refine WP_if c2_ne (fun y => absurd rfl y) (fun _ => ?_)
        rw [on q q2, if_pos k]
        exact WP_call (ht q2 k τ hτ) (fun p hp => WP_some hp)
      · rw [busy q (Classical.not_not.mp q2)]
        exact WP_some h
    · have q : l.1 5 < aS a 53 s := Int32.not_le.mp q
      rw [early q, if_pos k]
      refine WP_if c2_ne (fun y => absurd rfl y) (fun _ => ?_)
      unfold aAppended
      exact WP_call (M_tell (by omega) h hs hf (Or.inl ⟨rfl, rfl, rfl, rfl⟩)) (fun q hq => WP_some hq)
  · have k5 : ¬ l.1 4 = 5 := by rw [k]; decide
    rw [k]
    refine WP_if c2_ne (fun _ => ?_) (fun y => absurd (show ¬ (7 : Int32) = 5 by decide) y)
    unfold m_led_b18
    refine WP_ld (n := 2830) rfl 2832 (by decide +kernel) (by omega) ?_
    rw [(t7 k).1]
    refine WP_r7 h (by decide) hs ?_
    refine WP_if c2_ge (fun q => ?_) (fun q => ?_)
    · have q : ¬ l.1 5 < aS a 53 s := Int32.not_lt.mpr q
      refine WP_r7 h (by decide) hs ?_
      refine WP_if c2_ne (fun q2 => ?_) (fun q2 => ?_)
      · refine ready q q2 _ (fun τ hτ => ?_)
        refine WP_if c2_ne (fun _ => ?_) (fun y => absurd (show ¬ (7 : Int32) = 5 by decide) y)
        rw [on q q2, if_neg k5]
        exact WP_call (ha q2 k τ hτ) (fun p hp => WP_some hp)
      · rw [busy q (Classical.not_not.mp q2)]
        exact WP_some h
    · have q : l.1 5 < aS a 53 s := Int32.not_le.mp q
      rw [early q, if_neg k5]
      refine WP_if c2_ne (fun _ => ?_) (fun y => absurd (show ¬ (7 : Int32) = 5 by decide) y)
      refine WP_ld (n := 2824) rfl 2832 (by decide +kernel) (by omega) ?_
      rw [(t7 k).2]
      unfold aStored
      exact WP_call (M_tell (by omega) h hs hf (Or.inr (Or.inl ⟨rfl, rfl, rfl, rfl⟩))) (fun q hq => WP_some hq)
