/-- events have numbers of their own, the way is in order -/
def EvOK (a : AA) : Prop := (aWay a).Pairwise (fun x y => x.1 < y.1 ∨ (x.1 = y.1 ∧ x.2.1 < y.2.1)) ∧ (∀ x ∈ aWay a, ∀ b, b < 23 → 0 ≤ aBn a b → x.2.1 ≠ aBn a b) ∧ (∀ b c, b < 23 → c < 23 → b ≠ c → 0 ≤ aBn a b → aBn a b ≠ aBn a c)
/-- the event that was found -/
def Nx (τ : RS) (a : AA) : Prop := match aNext a with
  | none => τ.1 35 0 = -1
  | some (t, none) => τ.1 33 0 = t ∧ ∃ k x r, k < 128 ∧ τ.1 35 0 = Int32.ofNat k ∧ aWay a = x :: r ∧ τ.1 17 k = 1 ∧ τ.1 18 k = x.1 ∧ τ.1 19 k = x.2.1
  | some (t, some b) => τ.1 33 0 = t ∧ b < 23 ∧ 0 ≤ aBn a b ∧ τ.1 35 0 = if b < 16 then Int32.ofNat (200 + b) else Int32.ofNat (300 + (b - 16))
theorem RM_nx {σ τ : RS} {a : AA} {u : AU} (h : RM σ a u) (hF : Fr [33, 34, 35] [] σ τ) : RM τ a u := by
  exact ⟨RSc_fr hF (by decide) h.1, RWay_fr hF (by decide) h.2.1, fun s hs => RWt_fr hF (by decide) (h.2.2.1 s hs), fun l hl => RLt_fr hF (by decide) (h.2.2.2.1 l hl), fun s hs => RLog_fr hF (by decide) (h.2.2.2.2.1 s hs), fun s hs => RDk_fr hF (by decide) (h.2.2.2.2.2.1 s hs), fun s hs => RSl_fr hF (by decide) (h.2.2.2.2.2.2.1 s hs), fun s hs hu => RCh_fr hF (by decide) (h.2.2.2.2.2.2.2.1 s hs hu), fun s hs hu => RAt_fr hF (by decide) (h.2.2.2.2.2.2.2.2.1 s hs hu), fun s hs => RMc_fr hF (by decide) (h.2.2.2.2.2.2.2.2.2.1 s hs), fun s hs => RSh_fr hF (by decide) (h.2.2.2.2.2.2.2.2.2.2.1 s hs), fun s hs => RPc_fr hF (by decide) (h.2.2.2.2.2.2.2.2.2.2.2.1 s hs), fun s hs => RRq_fr hF (by decide) (h.2.2.2.2.2.2.2.2.2.2.2.2.1 s hs), RAk_fr hF (by decide) h.2.2.2.2.2.2.2.2.2.2.2.2.2.1, fun s hs => RWn_fr hF (by decide) (h.2.2.2.2.2.2.2.2.2.2.2.2.2.2.1 s hs), RTp_fr hF (by decide) h.2.2.2.2.2.2.2.2.2.2.2.2.2.2.2.1, RRe_fr hF (by decide) h.2.2.2.2.2.2.2.2.2.2.2.2.2.2.2.2.1, fun s hs => RDn_fr hF (by decide) (h.2.2.2.2.2.2.2.2.2.2.2.2.2.2.2.2.2.1 s hs), RSum_fr hF (by decide) h.2.2.2.2.2.2.2.2.2.2.2.2.2.2.2.2.2.2.1, h.2.2.2.2.2.2.2.2.2.2.2.2.2.2.2.2.2.2.2.1, h.2.2.2.2.2.2.2.2.2.2.2.2.2.2.2.2.2.2.2.2.1, h.2.2.2.2.2.2.2.2.2.2.2.2.2.2.2.2.2.2.2.2.2.1, h.2.2.2.2.2.2.2.2.2.2.2.2.2.2.2.2.2.2.2.2.2.2.1, h.2.2.2.2.2.2.2.2.2.2.2.2.2.2.2.2.2.2.2.2.2.2.2⟩
theorem aBell_none {a : AA} : ∀ n, aBell a n = none → ∀ b, b < n → ¬ 0 ≤ aBn a b := by
  intro n
  induction n with
  | zero => intro _ b hb; omega
  | succ n ih =>
    intro h b hb
    unfold aBell at h
    cases e : aBell a n with
    | none =>
      rw [e] at h
      dsimp only at h
      by_cases q : 0 ≤ aBn a n
      · rw [if_pos q] at h
        exact absurd h (by simp)
      · by_cases z : b = n
        · rw [z]
          exact q
        · exact ih e b (by omega)
    | some f =>
      rw [e] at h
      dsimp only at h
      split at h <;> exact absurd h (by simp)
theorem aBell_some {a : AA} : ∀ n f, aBell a n = some f → f < n ∧ 0 ≤ aBn a f ∧ ∀ b, b < n → 0 ≤ aBn a b → kle (aBt a f) (aBn a f) (aBt a b) (aBn a b) := by
  intro n
  induction n with
  | zero => intro f h; exact absurd h (by simp [aBell])
  | succ n ih =>
    intro f h
    unfold aBell at h
    cases e : aBell a n with
    | none =>
      rw [e] at h
      dsimp only at h
      by_cases q : 0 ≤ aBn a n
      · rw [if_pos q] at h
        have : n = f := Option.some.inj h
        subst this
        refine ⟨by omega, q, fun b hb hb2 => ?_⟩
        by_cases z : b = n
        · rw [z]
          exact kle_r
        · exact absurd hb2 (aBell_none n e b (by omega))
      · rw [if_neg q] at h
        exact absurd h (by simp)
    | some g =>
      obtain ⟨g1, g2, g3⟩ := ih g e
      rw [e] at h
      dsimp only at h
      by_cases q : 0 ≤ aBn a n ∧ (aBt a n < aBt a g ∨ (aBt a n = aBt a g ∧ aBn a n < aBn a g))
      · rw [if_pos q] at h
        have : n = f := Option.some.inj h
        subst this
        have q2 : kle (aBt a n) (aBn a n) (aBt a g) (aBn a g) := q.2.imp id (fun z => ⟨z.1, by
          have := z.2
          rw [Int32.lt_iff_toInt_lt] at this
          rw [Int32.le_iff_toInt_le]
          omega⟩)
        refine ⟨by omega, q.1, fun b hb hb2 => ?_⟩
        by_cases z : b = n
        · rw [z]
          exact kle_r
        · exact kle_t q2 (g3 b (by omega) hb2)
      · rw [if_neg q] at h
        have : g = f := Option.some.inj h
        subst this
        refine ⟨by omega, g2, fun b hb hb2 => ?_⟩
        by_cases z : b = n
        · subst z
          have q := not_and.mp q hb2
          unfold kle
          simp only [Int32.lt_iff_toInt_lt, Int32.le_iff_toInt_le, ← Int32.toInt_inj] at *
          omega
        · exact g3 b (by omega) hb2
theorem way_slot {σ : RS} {K : List AK} {w : List AP} (h : RWay K σ w) : (∀ x ∈ w, ∃ k, k < 128 ∧ σ.1 17 k = 1 ∧ σ.1 18 k = x.1 ∧ σ.1 19 k = x.2.1) ∧ ∀ k, k < 128 → ¬ σ.1 17 k = 0 → σ.1 17 k = 1 ∧ ∃ x ∈ w, σ.1 18 k = x.1 ∧ σ.1 19 k = x.2.1 := by
  obtain ⟨_, _, ws, z3, z4, z5, z6⟩ := h
  constructor
  · intro x hx
    rw [← z3, List.mem_map] at hx
    obtain ⟨p, hp, rfl⟩ := hx
    obtain ⟨y1, y2, y3, _⟩ := z5 p hp
    refine ⟨p.1, y1, ?_, y2, y3⟩
    rw [z6 _ y1, if_pos (List.mem_map.mpr ⟨p, hp, rfl⟩)]
  · intro k hk h0
    have h6 := z6 k hk
    by_cases q : k ∈ ws.map Prod.fst
    · rw [if_pos q] at h6
      refine ⟨h6, ?_⟩
      rw [List.mem_map] at q
      obtain ⟨p, hp, rfl⟩ := q
      obtain ⟨y1, y2, y3, _⟩ := z5 p hp
      exact ⟨p.2, by rw [← z3]; exact List.mem_map.mpr ⟨p, hp, rfl⟩, y2, y3⟩
    · rw [if_neg q] at h6
      exact absurd h6 h0
theorem M_findNext {F : Nat} {σ : RS} {a : AA} {u : AU} (hF : 200 ≤ F) (h : RM σ a u) (he : EvOK a) : WP (m_findNext F σ) (fun τ => RM τ a u ∧ Nx τ a) := by
  obtain ⟨ev1, ev2, ev3⟩ := he
  obtain ⟨wL, wR⟩ := way_slot h.2.1
  have eA : ∀ k, k < 16 → σ.1 29 k = aS a 29 k ∧ σ.1 30 k = aS a 30 k := fun k hk => ⟨h.1.1 29 (by decide) k (by rw [show rlen 29 = 16 by decide +kernel]; omega), h.1.1 30 (by decide) k (by rw [show rlen 30 = 16 by decide +kernel]; omega)⟩
  have eS : ∀ k, k < 7 → σ.1 31 k = aS a 31 k ∧ σ.1 32 k = aS a 32 k := fun k hk => ⟨RM_7 h (by decide) hk, RM_7 h (by decide) hk⟩
  have bA : ∀ k, k < 16 → aBn a k = aS a 29 k ∧ aBt a k = aS a 30 k := fun k hk => ⟨if_pos hk, if_pos hk⟩
  have bS : ∀ k, aBn a (16 + k) = aS a 31 k ∧ aBt a (16 + k) = aS a 32 k := by
    intro k
    unfold aBn aBt
    rw [if_neg (by omega), if_neg (by omega), Nat.add_sub_cancel_left]
    exact ⟨rfl, rfl⟩
  refine WP_mono (m_findNext_c hF) ?_
  rintro τ ⟨hF1, hb⟩
  refine ⟨RM_nx h hF1, ?_⟩
  have t17 : ∀ k, τ.1 17 k = σ.1 17 k := fun k => by rw [hF1.1 17 (by decide)]
  have t18 : ∀ k, τ.1 18 k = σ.1 18 k := fun k => by rw [hF1.1 18 (by decide)]
  have t19 : ∀ k, τ.1 19 k = σ.1 19 k := fun k => by rw [hF1.1 19 (by decide)]
  -- the candidates are the letters and the bells
  have cB : ∀ b, b < 23 → 0 ≤ aBn a b → cnL σ 128 (aBt a b) (aBn a b) (if b < 16 then Int32.ofNat (200 + b) else Int32.ofNat (300 + (b - 16))) ∨ cnA σ 16 (aBt a b) (aBn a b) (if b < 16 then Int32.ofNat (200 + b) else Int32.ofNat (300 + (b - 16))) ∨ cnS σ 7 (aBt a b) (aBn a b) (if b < 16 then Int32.ofNat (200 + b) else Int32.ofNat (300 + (b - 16))) := by
    intro b hb hb2
    by_cases q : b < 16
    · rw [if_pos q]
      obtain ⟨e1, e2⟩ := bA b q
      obtain ⟨e3, e4⟩ := eA b q
      right; left
      rw [e1] at hb2
      exact ⟨b, q, by rw [e3]; exact hb2, by rw [e2, e4], by rw [e1, e3], rfl⟩
    · rw [if_neg q]
      obtain ⟨k, rfl⟩ : ∃ k, b = 16 + k := ⟨b - 16, by omega⟩
      obtain ⟨e1, e2⟩ := bS k
      obtain ⟨e3, e4⟩ := eS k (by omega)
      right; right
      rw [e1] at hb2
      exact ⟨k, by omega, by rw [e3]; exact hb2, by rw [e2, e4], by rw [e1, e3], by rw [Nat.add_sub_cancel_left]⟩
  have cL : ∀ x ∈ aWay a, ∃ c, cnL σ 128 x.1 x.2.1 c ∨ cnA σ 16 x.1 x.2.1 c ∨ cnS σ 7 x.1 x.2.1 c := by
    intro x hx
    obtain ⟨k, k1, k2, k3, k4⟩ := wL x hx
    exact ⟨Int32.ofNat k, Or.inl ⟨k, k1, by rw [k2]; decide, k3.symm, k4.symm, rfl⟩⟩
  -- what a candidate is
  have what : ∀ t n c, (cnL σ 128 t n c ∨ cnA σ 16 t n c ∨ cnS σ 7 t n c) → (∃ k, k < 128 ∧ c = Int32.ofNat k ∧ σ.1 17 k = 1 ∧ σ.1 18 k = t ∧ σ.1 19 k = n ∧ ∃ x ∈ aWay a, x.1 = t ∧ x.2.1 = n) ∨ ∃ b, b < 23 ∧ 0 ≤ aBn a b ∧ t = aBt a b ∧ n = aBn a b ∧ c = if b < 16 then Int32.ofNat (200 + b) else Int32.ofNat (300 + (b - 16)) := by
    rintro t n c (⟨k, k1, k2, k3, k4, k5⟩ | ⟨k, k1, k2, k3, k4, k5⟩ | ⟨k, k1, k2, k3, k4, k5⟩)
    · left
      obtain ⟨y1, x, hx, y2, y3⟩ := wR k k1 k2
      exact ⟨k, k1, k5, y1, k3.symm, k4.symm, x, hx, by rw [k3, y2], by rw [k4, y3]⟩
    · right
      obtain ⟨e1, e2⟩ := bA k k1
      obtain ⟨e3, e4⟩ := eA k k1
      exact ⟨k, by omega, by rw [e1, ← e3]; exact k2, by rw [e2, ← e4]; exact k3, by rw [e1, ← e3]; exact k4, by rw [if_pos k1]; exact k5⟩
    · right
      obtain ⟨e1, e2⟩ := bS k
      obtain ⟨e3, e4⟩ := eS k k1
      exact ⟨16 + k, by omega, by rw [e1, ← e3]; exact k2, by rw [e2, ← e4]; exact k3, by rw [e1, ← e3]; exact k4, by rw [if_neg (by omega), Nat.add_sub_cancel_left]; exact k5⟩
  unfold Nx
  -- the first letter is not later than the others
  have hd : ∀ x r, aWay a = x :: r → ∀ y ∈ aWay a, y = x ∨ (x.1 < y.1 ∨ (x.1 = y.1 ∧ x.2.1 < y.2.1)) := by
    intro x r e y hy
    rw [e] at hy ev1
    rcases List.mem_cons.mp hy with z | z
    · exact Or.inl z
    · exact Or.inr ((List.pairwise_cons.mp ev1).1 y z)
  -- the bell is next
  have bell : ∀ b, aBell a 23 = some b → (∀ x r, aWay a = x :: r → ¬ (x.1 < aBt a b ∨ (x.1 = aBt a b ∧ x.2.1 < aBn a b))) → τ.1 33 0 = aBt a b ∧ b < 23 ∧ 0 ≤ aBn a b ∧ τ.1 35 0 = if b < 16 then Int32.ofNat (200 + b) else Int32.ofNat (300 + (b - 16)) := by
    intro b eb hx
    obtain ⟨b1, b2, b3⟩ := aBell_some 23 b eb
    rcases hb with ⟨_, h2⟩ | ⟨h1, h2, h3⟩
    · exact absurd (cB b b1 b2) (h2 _ _ _)
    · have kb := h3 _ _ _ (cB b b1 b2)
      rcases what _ _ _ h1 with ⟨k, k1, k2, k3, k4, k5, y, hy, y1, y2⟩ | ⟨c, c1, c2, c3, c4, c5⟩
      · exfalso
        have ne := ev2 y hy b b1 b2
        cases ew : aWay a with
        | nil =>
          rw [ew] at hy
          exact absurd hy List.not_mem_nil
        | cons x r =>
          have h4 := hx x r ew
          have h5 := hd x r ew y hy
          rw [← y1, ← y2] at kb
          unfold kle at kb
          rcases h5 with h5 | h5
          · rw [h5] at kb ne
            simp only [Int32.lt_iff_toInt_lt, Int32.le_iff_toInt_le, ← Int32.toInt_inj, ne_eq] at *
            omega
          · simp only [Int32.lt_iff_toInt_lt, Int32.le_iff_toInt_le, ← Int32.toInt_inj, ne_eq] at *
            omega
      · have kc := b3 c c1 c2
        rw [c3, c4] at kb
        have : c = b := by
          by_cases z : c = b
          · exact z
          · exfalso
            have ne := ev3 c b c1 b1 z c2
            unfold kle at kb kc
            simp only [Int32.lt_iff_toInt_lt, Int32.le_iff_toInt_le, ← Int32.toInt_inj, ne_eq] at *
            omega
        rw [this] at c3 c5
        exact ⟨c3, b1, b2, c5⟩
  -- a letter is next
  have lett : ∀ x r, aWay a = x :: r → (∀ b, aBell a 23 = some b → x.1 < aBt a b ∨ (x.1 = aBt a b ∧ x.2.1 < aBn a b)) → τ.1 33 0 = x.1 ∧ ∃ k y q, k < 128 ∧ τ.1 35 0 = Int32.ofNat k ∧ aWay a = y :: q ∧ τ.1 17 k = 1 ∧ τ.1 18 k = y.1 ∧ τ.1 19 k = y.2.1 := by
    intro x r ew hx
    obtain ⟨cx, hcx⟩ := cL x (by rw [ew]; exact List.mem_cons_self)
    rcases hb with ⟨_, h2⟩ | ⟨h1, h2, h3⟩
    · exact absurd hcx (h2 _ _ _)
    · have kb := h3 _ _ _ hcx
      rcases what _ _ _ h1 with ⟨k, k1, k2, k3, k4, k5, y, hy, y1, y2⟩ | ⟨c, c1, c2, c3, c4, c5⟩
      · have e : y = x := by
          rcases hd x r ew y hy with z | z
          · exact z
          · exfalso
            rw [← y1, ← y2] at kb
            unfold kle at kb
            simp only [Int32.lt_iff_toInt_lt, Int32.le_iff_toInt_le, ← Int32.toInt_inj] at *
            omega
        rw [e] at y1 y2
        exact ⟨y1.symm, k, x, r, k1, k2, ew, by rw [t17]; exact k3, by rw [t18, k4]; exact y1.symm, by rw [t19, k5]; exact y2.symm⟩
      · exfalso
        cases eb : aBell a 23 with
        | none => exact aBell_none 23 eb c c1 c2
        | some b =>
          obtain ⟨b1, b2, b3⟩ := aBell_some 23 b eb
          have h4 := hx b eb
          have kc := b3 c c1 c2
          rw [c3, c4] at kb
          unfold kle at kb kc
          simp only [Int32.lt_iff_toInt_lt, Int32.le_iff_toInt_le, ← Int32.toInt_inj] at *
          omega
  unfold aNext
  cases ew : aWay a with
  | nil =>
    cases eb : aBell a 23 with
    | none =>
      dsimp only
      rcases hb with ⟨h1, _⟩ | ⟨h1, h2, h3⟩
      · exact h1
      · rcases what _ _ _ h1 with ⟨k, k1, k2, k3, k4, k5, y, hy, _⟩ | ⟨c, c1, c2, _⟩
        · rw [ew] at hy
          exact absurd hy List.not_mem_nil
        · exact absurd c2 (aBell_none 23 eb c c1)
    | some b =>
      dsimp only
      exact bell b eb (fun x r e => by rw [ew] at e; exact absurd e (by simp))
  | cons x r =>
    cases eb : aBell a 23 with
    | none =>
      dsimp only
      have := lett x r ew (fun b e => by rw [eb] at e; exact absurd e (by simp))
      rw [ew] at this
      exact this
    | some b =>
      dsimp only
      by_cases q : x.1 < aBt a b ∨ (x.1 = aBt a b ∧ x.2.1 < aBn a b)
      · rw [if_pos q]
        dsimp only
        have := lett x r ew (fun b' e => by rw [eb] at e; rw [← Option.some.inj e]; exact q)
        rw [ew] at this
        exact this
      · rw [if_neg q]
        dsimp only
        exact bell b eb (fun y p e => by rw [ew] at e; rw [← (List.cons.inj e).1]; exact q)
