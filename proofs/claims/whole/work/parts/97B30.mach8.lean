/-! a session is opened -/
/-- the first of the sessions that were used the longest ago -/
theorem aOldest_spec : ∀ l : List AN, l ≠ [] → aOldest l < l.length ∧ (∀ j, j < l.length → (l.getD (aOldest l) aN0).2.1 ≤ (l.getD j aN0).2.1) ∧ ∀ j, j < aOldest l → (l.getD (aOldest l) aN0).2.1 < (l.getD j aN0).2.1 := by
  intro l
  induction l with
  | nil => intro h; exact absurd rfl h
  | cons x r ih =>
    intro _
    cases r with
    | nil =>
      refine ⟨Nat.lt_succ_self _, fun j hj => ?_, fun j hj => absurd hj (Nat.not_lt_zero _)⟩
      have : j = 0 := by simp at hj; omega
      rw [this]
      exact Int32.le_refl _
    | cons y q =>
      obtain ⟨h1, h2, h3⟩ := ih (by simp)
      have e : aOldest (x :: y :: q) = if ((y :: q).getD (aOldest (y :: q)) x).2.1 < x.2.1 then aOldest (y :: q) + 1 else 0 := rfl
      have ed : (y :: q).getD (aOldest (y :: q)) x = (y :: q).getD (aOldest (y :: q)) aN0 := by
        rw [List.getD_eq_getElem?_getD, List.getElem?_eq_getElem h1, List.getD_eq_getElem?_getD, List.getElem?_eq_getElem h1]
        rfl
      rw [e, ed]
      by_cases z : ((y :: q).getD (aOldest (y :: q)) aN0).2.1 < x.2.1
      · rw [if_pos z]
        refine ⟨by simp at h1 ⊢; omega, fun j hj => ?_, fun j hj => ?_⟩
        · cases j with
          | zero =>
            rw [Int32.lt_iff_toInt_lt] at z
            show _ ≤ x.2.1
            rw [Int32.le_iff_toInt_le]
            exact Int.le_of_lt z
          | succ j => exact h2 j (by simp at hj ⊢; omega)
        · cases j with
          | zero => exact z
          | succ j => exact h3 j (by omega)
      · rw [if_neg z]
        refine ⟨by simp, fun j hj => ?_, fun j hj => absurd hj (Nat.not_lt_zero _)⟩
        cases j with
        | zero => exact Int32.le_refl _
        | succ j =>
          have := h2 j (by simp at hj ⊢; omega)
          have z := i_nlt.mp z
          exact Int32.le_trans z this
theorem RMc_app {σ τ : RS} {s : Nat} {M : AM} {n : Int32} (h : RMc σ s M) (hl : M.1.length < 16) (hS : ∀ f i, 106 ≤ f → f ≤ 119 → ¬ (f = 106 ∧ i = s) → ¬ (107 ≤ f ∧ f ≤ 111 ∧ i = 16 * s + M.1.length) → τ.1 f i = σ.1 f i) (e0 : τ.1 106 s = Int32.ofNat (M.1.length + 1)) (e1 : τ.1 107 (16 * s + M.1.length) = n) (e2 : τ.1 108 (16 * s + M.1.length) = n) (e3 : τ.1 109 (16 * s + M.1.length) = 0) (e4 : τ.1 110 (16 * s + M.1.length) = 0) (e5 : τ.1 111 (16 * s + M.1.length) = 0) : RMc τ s (M.1 ++ [(n, n, 0, 0, [])], M.2) := by
  obtain ⟨z1, z2, z3, z4, sl, k1, k2, k3, k4, k5⟩ := h
  obtain ⟨w1, w2, w3, w4⟩ := z1
  have hll : (M.1 ++ [((n, n, 0, 0, []) : AN)]).length = M.1.length + 1 := by simp
  refine ⟨⟨⟨by show (M.1 ++ [_]).length ≤ 16; omega, w1.2⟩, w2, fun y hy => ?_, w4⟩, by show _ = Int32.ofNat (M.1 ++ [_]).length; rw [hll]; exact e0, by rw [hS 113 s (by omega) (by omega) (by omega) (by omega)]; exact z3, fun j hj => ?_, sl, k1, k2, k3, fun k hk => ?_, fun j hj => ?_⟩
  · rcases List.mem_append.mp hy with q | q
    · exact w3 y q
    · rw [List.mem_singleton.mp q]
      exact ⟨Nat.zero_le _, fun b hb => absurd hb List.not_mem_nil⟩
  · have hj : j < (M.1 ++ [((n, n, 0, 0, []) : AN)]).length := hj
    rw [hll] at hj
    dsimp only
    rw [getD_app]
    by_cases q : j < M.1.length
    · rw [if_pos q]
      obtain ⟨y1, y2, y3, y4, y5, y6⟩ := z4 j q
      exact ⟨(hS 107 _ (by omega) (by omega) (by omega) (by omega)).trans y1, (hS 108 _ (by omega) (by omega) (by omega) (by omega)).trans y2, (hS 109 _ (by omega) (by omega) (by omega) (by omega)).trans y3, (hS 110 _ (by omega) (by omega) (by omega) (by omega)).trans y4, (hS 111 _ (by omega) (by omega) (by omega) (by omega)).trans y5, fun b hb => (hS 112 _ (by omega) (by omega) (by omega) (by omega)).trans (y6 b hb)⟩
    · have : j = M.1.length := by omega
      rw [if_neg q, if_pos this, this]
      exact ⟨e1, e2, e3, e4, e5, fun b hb => absurd hb (Nat.not_lt_zero _)⟩
  · rw [hS 119 _ (by omega) (by omega) (by omega) (by omega)]
    exact k4 k hk
  · obtain ⟨y1, y2, y3, y4, y5⟩ := k5 j hj
    exact ⟨(hS 118 _ (by omega) (by omega) (by omega) (by omega)).trans y1, (hS 114 _ (by omega) (by omega) (by omega) (by omega)).trans y2, (hS 115 _ (by omega) (by omega) (by omega) (by omega)).trans y3, fun b hb => (hS 116 _ (by omega) (by omega) (by omega) (by omega)).trans (y4 b hb), fun b hb => (hS 117 _ (by omega) (by omega) (by omega) (by omega)).trans (y5 b hb)⟩
/-- what open leaves: a machine, no answer but its place -/
def opQ (σ : RS) (s : Nat) (n : Int32) (M : AM) (τ : RS) : Prop := SLp s σ τ ∧ τ.1 120 0 = σ.1 120 0 ∧ τ.1 123 0 = n ∧ An τ [] ∧ RMc τ s M
theorem op85 {F : Nat} {σ : RS} {s c : Nat} {n : Int32} {M' : AM} (hs : s < 7) (hc : c < 16) (h106 : σ.1 106 s = Int32.ofNat c) (hM : ∀ τ : RS, (∀ f i, 106 ≤ f → f ≤ 119 → ¬ (f = 106 ∧ i = s) → ¬ (107 ≤ f ∧ f ≤ 111 ∧ i = 16 * s + c) → τ.1 f i = σ.1 f i) → τ.1 106 s = Int32.ofNat (c + 1) → τ.1 107 (16 * s + c) = n → τ.1 108 (16 * s + c) = n → τ.1 109 (16 * s + c) = 0 → τ.1 110 (16 * s + c) = 0 → τ.1 111 (16 * s + c) = 0 → RMc τ s M') : WP (m_open_b85 F σ (Int32.ofNat s) n) (opQ σ s n M') := by
  unfold m_open_b85
  refine WP_ld rfl 7 (by decide +kernel) hs ?_
  refine WP_ld rfl 7 (by decide +kernel) hs ?_
  rw [h106, i_s, show (16 : Int32) * Int32.ofNat s + Int32.ofNat c = Int32.ofNat (16 * s + c) from i_ma]
  refine WP_st rfl 7 (by decide +kernel) hs ?_
  refine WP_st rfl 112 (by decide +kernel) (by omega) ?_
  refine WP_st rfl 112 (by decide +kernel) (by omega) ?_
  refine WP_st rfl 112 (by decide +kernel) (by omega) ?_
  refine WP_st rfl 112 (by decide +kernel) (by omega) ?_
  refine WP_st rfl 112 (by decide +kernel) (by omega) ?_
  refine WP_some ⟨?_, ?_, ?_, ⟨?_, by simp, fun i hi => absurd hi (Nat.not_lt_zero _)⟩, hM _ (fun f i f1 f2 q1 q2 => ?_) ?_ ?_ ?_ ?_ ?_ ?_⟩
  · refine SLp_I (SLp_I (SLp_I (SLp_I (SLp_I (SLp_I (SLp_I (SLp_I SLp_refl ?_) ?_) ?_) ?_) ?_) ?_) ?_) ?_ <;> (unfold mOf; omega)
  · rfl
  · rfl
  · rfl
  · rw [setI_f (by omega), setI_f (by omega)]
    have g : ∀ (ρ : RS) (g' i' : Nat) (v : Int32), (g' = 106 ∧ i' = s) ∨ (107 ≤ g' ∧ g' ≤ 111 ∧ i' = 16 * s + c) → (setI ρ g' i' v).1 f i = ρ.1 f i := by
      intro ρ g' i' v hg
      refine if_neg (fun z => ?_)
      omega
    rw [g _ _ _ _ (Or.inr ⟨by omega, by omega, rfl⟩), g _ _ _ _ (Or.inr ⟨by omega, by omega, rfl⟩), g _ _ _ _ (Or.inr ⟨by omega, by omega, rfl⟩), g _ _ _ _ (Or.inr ⟨by omega, by omega, rfl⟩), g _ _ _ _ (Or.inr ⟨by omega, by omega, rfl⟩), g _ _ _ _ (Or.inl ⟨rfl, rfl⟩)]
  · simp [setI]
  · simp [setI]
  · simp [setI]
  · simp [setI]
  · simp [setI]
  · simp [setI]
theorem cs62 {F : Nat} {σ : RS} {s a b Z : Nat} (ha : a / 16 = s) (hb : b / 16 = s) (hs : s < 7) (hZ : Z ≤ 112) : ∀ n j (τ : RS), Z + 1 ≤ j + n → j ≤ Z → SLm s σ τ → τ.1 111 a = Int32.ofNat Z → (∀ f i, f ≠ 112 → τ.1 f i = σ.1 f i) → (∀ i, τ.1 112 i = if 112 * b ≤ i ∧ i < 112 * b + j then σ.1 112 (112 * a + (i - 112 * b)) else σ.1 112 i) → (∀ y, y < Z → (σ.1 112 (112 * a + y)).toInt8.toInt32 = σ.1 112 (112 * a + y)) →
    WP (m_copySession_b62 F n τ (Int32.ofNat a) (Int32.ofNat b) (Int32.ofNat j)) (fun τ' => SLm s σ τ' ∧ (∀ f i, f ≠ 112 → τ'.1 f i = σ.1 f i) ∧ ∀ i, τ'.1 112 i = if 112 * b ≤ i ∧ i < 112 * b + Z then σ.1 112 (112 * a + (i - 112 * b)) else σ.1 112 i) := by
  intro n
  induction n with
  | zero => intro j τ h1 h2; omega
  | succ n ih =>
    intro j τ h1 h2 g1 g2 g3 g4 g5
    unfold m_copySession_b62
    refine WP_ld rfl 112 (by decide +kernel) (by omega) ?_
    rw [g2]
    refine WP_if (i_gei (by omega) (by omega)) (fun y => ?_) (fun y => ?_)
    · have : j = Z := by omega
      subst this
      exact WP_some ⟨g1, g3, g4⟩
    · refine WP_ld (n := 112 * a + j) i_ma 12544 (by decide +kernel) (by omega) ?_
      have ev : τ.1 112 (112 * a + j) = σ.1 112 (112 * a + j) := by
        rw [g4]
        by_cases q : 112 * b ≤ 112 * a + j ∧ 112 * a + j < 112 * b + j
        · rw [if_pos q]
          omega
        · rw [if_neg q]
      rw [ev, g5 j (by omega)]
      refine WP_st (n := 112 * b + j) i_ma 12544 (by decide +kernel) (by omega) ?_
      rw [i_s]
      refine ih (j + 1) _ (by omega) (by omega) (SLm_I g1 (by unfold mOf; omega)) ((setI_f (by decide)).trans g2) (fun f i hf => (setI_f hf).trans (g3 f i hf)) (fun i => ?_) g5
      by_cases q : i = 112 * b + j
      · rw [q, setI_e, if_pos (by omega), show 112 * b + j - 112 * b = j by omega]
      · rw [setI_i q, g4]
        by_cases q2 : 112 * b ≤ i ∧ i < 112 * b + j
        · rw [if_pos q2, if_pos (by omega)]
        · rw [if_neg q2, if_neg (by omega)]
theorem ses_get {M : AM} {i : Nat} (h : wfM M) (hi : i < M.1.length) : (M.1.getD i aN0).2.2.2.2.length ≤ 112 ∧ ∀ b ∈ (M.1.getD i aN0).2.2.2.2, aLow8 b = b := by
  rw [List.getD_eq_getElem?_getD, List.getElem?_eq_getElem hi]
  exact h.2.2.1 _ (List.getElem_mem hi)
theorem m_copySession_n {F : Nat} {σ : RS} {s i : Nat} {M : AM} (hF : 400 ≤ F) (hs : s < 7) (h : RMc σ s M) (hl : M.1.length = 16) (hi : i < 16) : WP (m_copySession F σ (Int32.ofNat (16 * s + 15)) (Int32.ofNat (16 * s + i))) (fun τ => SLm s σ τ ∧ RMc τ s (M.1.set i (M.1.getD 15 aN0), M.2)) := by
  obtain ⟨x1, x2, x3, x4, x5, x6⟩ := h.2.2.2.1 15 (by omega)
  obtain ⟨u1, u2⟩ := ses_get (i := 15) h.1 (by omega)
  have x1 : σ.1 107 (16 * s + 15) = (M.1.getD 15 aN0).1 := x1
  have x2 : σ.1 108 (16 * s + 15) = (M.1.getD 15 aN0).2.1 := x2
  have x3 : σ.1 109 (16 * s + 15) = (M.1.getD 15 aN0).2.2.1 := x3
  have x4 : σ.1 110 (16 * s + 15) = (M.1.getD 15 aN0).2.2.2.1 := x4
  have x5 : σ.1 111 (16 * s + 15) = Int32.ofNat (M.1.getD 15 aN0).2.2.2.2.length := x5
  have x6 : ∀ j, j < (M.1.getD 15 aN0).2.2.2.2.length → σ.1 112 (112 * (16 * s + 15) + j) = (M.1.getD 15 aN0).2.2.2.2.getD j 0 := x6
  generalize M.1.getD 15 aN0 = X at x1 x2 x3 x4 x5 x6 u1 u2
  unfold m_copySession m_copySession_b0
  have c : ∀ (ρ : RS) (f : Nat), (∀ g, ρ.1 g (16 * s + 15) = σ.1 g (16 * s + 15) ∨ True) → True := fun _ _ _ => trivial
  -- each number is read at the last place and written at the other
  refine WP_ld rfl 112 (by decide +kernel) (by omega) ?_
  refine WP_st rfl 112 (by decide +kernel) (by omega) ?_
  refine WP_ld rfl 112 (by decide +kernel) (by omega) ?_
  refine WP_st rfl 112 (by decide +kernel) (by omega) ?_
  refine WP_ld rfl 112 (by decide +kernel) (by omega) ?_
  refine WP_st rfl 112 (by decide +kernel) (by omega) ?_
  refine WP_ld rfl 112 (by decide +kernel) (by omega) ?_
  refine WP_st rfl 112 (by decide +kernel) (by omega) ?_
  refine WP_ld rfl 112 (by decide +kernel) (by omega) ?_
  refine WP_st rfl 112 (by decide +kernel) (by omega) ?_
  simp only [setI_f (show (108 : Nat) ≠ 107 by decide), setI_f (show (109 : Nat) ≠ 108 by decide), setI_f (show (109 : Nat) ≠ 107 by decide), setI_f (show (110 : Nat) ≠ 109 by decide), setI_f (show (110 : Nat) ≠ 108 by decide), setI_f (show (110 : Nat) ≠ 107 by decide), setI_f (show (111 : Nat) ≠ 110 by decide), setI_f (show (111 : Nat) ≠ 109 by decide), setI_f (show (111 : Nat) ≠ 108 by decide), setI_f (show (111 : Nat) ≠ 107 by decide), x1, x2, x3, x4, x5]
  have hS : SLm s σ (setI (setI (setI (setI (setI σ 107 (16 * s + i) X.1) 108 (16 * s + i) X.2.1) 109 (16 * s + i) X.2.2.1) 110 (16 * s + i) X.2.2.2.1) 111 (16 * s + i) (Int32.ofNat X.2.2.2.2.length)) := by
    refine SLm_I (SLm_I (SLm_I (SLm_I (SLm_I SLm_refl ?_) ?_) ?_) ?_) ?_ <;> (unfold mOf; omega)
  have v1 : (setI (setI (setI (setI (setI σ 107 (16 * s + i) X.1) 108 (16 * s + i) X.2.1) 109 (16 * s + i) X.2.2.1) 110 (16 * s + i) X.2.2.2.1) 111 (16 * s + i) (Int32.ofNat X.2.2.2.2.length)).1 107 (16 * s + i) = X.1 := by simp [setI]
  have v2 : (setI (setI (setI (setI (setI σ 107 (16 * s + i) X.1) 108 (16 * s + i) X.2.1) 109 (16 * s + i) X.2.2.1) 110 (16 * s + i) X.2.2.2.1) 111 (16 * s + i) (Int32.ofNat X.2.2.2.2.length)).1 108 (16 * s + i) = X.2.1 := by simp [setI]
  have v3 : (setI (setI (setI (setI (setI σ 107 (16 * s + i) X.1) 108 (16 * s + i) X.2.1) 109 (16 * s + i) X.2.2.1) 110 (16 * s + i) X.2.2.2.1) 111 (16 * s + i) (Int32.ofNat X.2.2.2.2.length)).1 109 (16 * s + i) = X.2.2.1 := by simp [setI]
  have v4 : (setI (setI (setI (setI (setI σ 107 (16 * s + i) X.1) 108 (16 * s + i) X.2.1) 109 (16 * s + i) X.2.2.1) 110 (16 * s + i) X.2.2.2.1) 111 (16 * s + i) (Int32.ofNat X.2.2.2.2.length)).1 110 (16 * s + i) = X.2.2.2.1 := by simp [setI]
  have v5 : (setI (setI (setI (setI (setI σ 107 (16 * s + i) X.1) 108 (16 * s + i) X.2.1) 109 (16 * s + i) X.2.2.1) 110 (16 * s + i) X.2.2.2.1) 111 (16 * s + i) (Int32.ofNat X.2.2.2.2.length)).1 111 (16 * s + i) = Int32.ofNat X.2.2.2.2.length := by simp [setI]
  have v5' : (setI (setI (setI (setI (setI σ 107 (16 * s + i) X.1) 108 (16 * s + i) X.2.1) 109 (16 * s + i) X.2.2.1) 110 (16 * s + i) X.2.2.2.1) 111 (16 * s + i) (Int32.ofNat X.2.2.2.2.length)).1 111 (16 * s + 15) = Int32.ofNat X.2.2.2.2.length := by
    by_cases q : i = 15
    · rw [q, setI_e]
    · rw [setI_i (by omega), setI_f (by decide), setI_f (by decide), setI_f (by decide), setI_f (by decide)]
      exact x5
  have vo : ∀ f j, ¬ (107 ≤ f ∧ f ≤ 111 ∧ j = 16 * s + i) → (setI (setI (setI (setI (setI σ 107 (16 * s + i) X.1) 108 (16 * s + i) X.2.1) 109 (16 * s + i) X.2.2.1) 110 (16 * s + i) X.2.2.2.1) 111 (16 * s + i) (Int32.ofNat X.2.2.2.2.length)).1 f j = σ.1 f j := by
    intro f j hf
    have g : ∀ (ρ : RS) (g' : Nat) (v : Int32), 107 ≤ g' → g' ≤ 111 → (setI ρ g' (16 * s + i) v).1 f j = ρ.1 f j := by
      intro ρ g' v g1 g2
      refine if_neg (fun z => hf ?_)
      omega
    rw [g _ 111 _ (by omega) (by omega), g _ 110 _ (by omega) (by omega), g _ 109 _ (by omega) (by omega), g _ 108 _ (by omega) (by omega), g _ 107 _ (by omega) (by omega)]
  generalize setI (setI (setI (setI (setI σ 107 (16 * s + i) X.1) 108 (16 * s + i) X.2.1) 109 (16 * s + i) X.2.2.1) 110 (16 * s + i) X.2.2.2.1) 111 (16 * s + i) (Int32.ofNat X.2.2.2.2.length) = τ0 at hS v1 v2 v3 v4 v5 v5' vo
  have h112 : ∀ j, τ0.1 112 j = σ.1 112 j := fun j => vo 112 j (by omega)
  refine WP_mono (cs62 (F := F) (σ := τ0) (s := s) (a := 16 * s + 15) (b := 16 * s + i) (Z := X.2.2.2.2.length) (by omega) (by omega) hs u1 F 0 τ0 (by omega) (Nat.zero_le _) SLm_refl v5' (fun _ _ _ => rfl) (fun j => by rw [if_neg (by omega)]) (fun y hy => ?_)) ?_
  · rw [h112, x6 y hy, List.getD_eq_getElem?_getD, List.getElem?_eq_getElem hy]
    exact u2 _ (List.getElem_mem hy)
  · rintro τ ⟨t1, t2, t3⟩
    refine ⟨SLm_t hS t1, RMc_ses h (by omega) ⟨u1, u2⟩ (fun f j q1 q2 f1 f2 => ?_) ?_ ?_ ?_ ?_ ?_ (fun j hj => ?_)⟩
    · by_cases q : f = 112
      · subst q
        rw [t3, if_neg (by omega), h112]
      · rw [t2 f j q]
        exact vo f j q1
    · rw [t2 107 _ (by decide)]; exact v1
    · rw [t2 108 _ (by decide)]; exact v2
    · rw [t2 109 _ (by decide)]; exact v3
    · rw [t2 110 _ (by decide)]; exact v4
    · rw [t2 111 _ (by decide)]; exact v5
    · rw [t3, if_pos (by omega), h112, show 112 * (16 * s + i) + j - 112 * (16 * s + i) = j by omega]
      exact x6 j hj
theorem set15 {l : List AN} {x : AN} (h : l.length = 16) : l.set 15 x = l.take 15 ++ [x] := by
  rw [List.set_eq_take_append_cons_drop, if_pos (by omega), List.drop_eq_nil_of_le (by omega)]
theorem m_open_n {F : Nat} {σ : RS} {s : Nat} {n : Int32} {M : AM} (hF : 400 ≤ F) (hs : s < 7) (h : RMc σ s M) : WP (m_open F σ (Int32.ofNat s) n) (opQ σ s n (aOpen M n)) := by
  have hl := ses_len h
  unfold m_open m_open_b0
  refine WP_ld rfl 7 (by decide +kernel) hs ?_
  rw [h.2.1]
  refine WP_if (c2_ne.trans (not_congr (i_eqi (q := 16) (by omega) (by omega)))) (fun y => ?_) (fun y => ?_)
  · have e : aOpen M n = (M.1 ++ [(n, n, 0, 0, [])], M.2) := by
      unfold aOpen
      dsimp only
      rw [if_neg y]
    rw [e]
    exact op85 hs (by omega) h.2.1 (fun τ t1 t2 t3 t4 t5 t6 t7 => RMc_app h (by omega) t1 t2 t3 t4 t5 t6 t7)
  · have hl16 : M.1.length = 16 := Classical.not_not.mp y
    have hne : M.1 ≠ [] := fun z => by rw [z] at hl16; exact absurd hl16 (by simp)
    obtain ⟨o1, o2, o3⟩ := aOldest_spec M.1 hne
    have e : aOpen M n = ((M.1.set (aOldest M.1) (M.1.getD 15 aN0)).set 15 (n, n, 0, 0, []), M.2) := by
      unfold aOpen
      dsimp only
      rw [if_pos hl16, set15 (by rw [List.length_set]; exact hl16)]
      rfl
    rw [e]
    have key : ∀ m k o, 18 ≤ k + m → k ≤ 16 → o < 16 → (∀ j, j < k → (M.1.getD o aN0).2.1 ≤ (M.1.getD j aN0).2.1) → (∀ j, j < o → (M.1.getD o aN0).2.1 < (M.1.getD j aN0).2.1) → WP (m_open_b22 F m σ (Int32.ofNat s) n (Int32.ofNat (16 * s + o)) (Int32.ofNat (16 * s + k))) (opQ σ s n ((M.1.set (aOldest M.1) (M.1.getD 15 aN0)).set 15 (n, n, 0, 0, []), M.2)) := by
      intro m
      induction m with
      | zero => intro k o h1 h2; omega
      | succ m ih =>
        intro k o h1 h2 h3 h4 h5
        unfold m_open_b22
        refine WP_if (p := 16 ≤ k) (by
          rw [show (16 : Int32) * Int32.ofNat s + 16 = Int32.ofNat (16 * s + 16) from i_ma, i_gei (by omega) (by omega)]
          omega) (fun q => ?_) (fun q => ?_)
        · have hk16 : k = 16 := by omega
          have eo : o = aOldest M.1 := by
            have a1 := h4 (aOldest M.1) (by omega)
            by_cases z : o < aOldest M.1
            · exact absurd a1 (i_nle.mpr (o3 o z))
            · by_cases z2 : aOldest M.1 < o
              · exact absurd (o2 o (by omega)) (i_nle.mpr (h5 _ z2))
              · omega
          subst eo
          rw [show (16 : Int32) * Int32.ofNat s + 15 = Int32.ofNat (16 * s + 15) from i_ma]
          refine WP_call (m_copySession_n hF hs h hl16 h3) (fun p hp => ?_)
          have hl2 : (M.1.set (aOldest M.1) (M.1.getD 15 aN0)).length = 16 := by rw [List.length_set]; exact hl16
          refine WP_ld rfl 7 (by decide +kernel) hs ?_
          rw [hp.2.2.1]
          refine WP_st rfl 7 (by decide +kernel) hs ?_
          have e15 : Int32.ofNat (M.1.set (aOldest M.1) (M.1.getD 15 aN0), M.2).1.length - 1 = Int32.ofNat 15 := by
            show Int32.ofNat (M.1.set (aOldest M.1) (M.1.getD 15 aN0)).length - 1 = _
            rw [hl2]
            rfl
          rw [e15]
          refine WP_mono (op85 (n := n) (M' := ((M.1.set (aOldest M.1) (M.1.getD 15 aN0)).set 15 (n, n, 0, 0, []), M.2)) hs (by omega) setI_e (fun τ t1 t2 t3 t4 t5 t6 t7 => ?_)) ?_
          · have hm := hp.2
            refine RMc_ses hm (i := 15) (x := (n, n, 0, 0, [])) (by show 15 < (M.1.set _ _).length; omega) ⟨Nat.zero_le _, fun b hb => absurd hb List.not_mem_nil⟩ (fun f j q1 q2 f1 f2 => ?_) t3 t4 t5 t6 t7 (fun j hj => absurd hj (Nat.not_lt_zero _))
            by_cases z : f = 106 ∧ j = s
            · rw [z.1, z.2, t2, hm.2.1]
              show Int32.ofNat 16 = Int32.ofNat (M.1.set (aOldest M.1) (M.1.getD 15 aN0)).length
              rw [hl2]
            · rw [t1 f j f1 f2 z q1]
              exact if_neg z
          · rintro τ ⟨a1, a2, a3, a4, a5⟩
            refine ⟨SLp_t (SLp_x (SLx_m hp.1)) (SLp_t (SLp_I SLp_refl (Or.inl (by unfold mOf; omega))) a1), ?_, a3, a4, a5⟩
            rw [a2, setI_f (by decide)]
            exact hp.1.1 120 0 (by unfold mOf; omega)
        · refine WP_ld rfl 112 (by decide +kernel) (by omega) ?_
          refine WP_ld rfl 112 (by decide +kernel) (by omega) ?_
          have ek : σ.1 108 (16 * s + k) = (M.1.getD k aN0).2.1 := (h.2.2.2.1 k (by omega)).2.1
          have eo : σ.1 108 (16 * s + o) = (M.1.getD o aN0).2.1 := (h.2.2.2.1 o (by omega)).2.1
          rw [ek, eo]
          unfold m_open_b56
          rw [i_s]
          refine WP_if c2_ge (fun z => ?_) (fun z => ?_)
          · refine ih (k + 1) o (by omega) (by omega) h3 (fun j hj => ?_) h5
            by_cases z2 : j = k
            · rw [z2]
              exact z
            · exact h4 j (by omega)
          · have z := i_nle.mp z
            have zle : (M.1.getD k aN0).2.1 ≤ (M.1.getD o aN0).2.1 := by
              rw [Int32.lt_iff_toInt_lt] at z
              rw [Int32.le_iff_toInt_le]
              exact Int.le_of_lt z
            have hk : ∀ j, j < k → (M.1.getD k aN0).2.1 < (M.1.getD j aN0).2.1 := by
              intro j hj
              have := h4 j hj
              rw [Int32.lt_iff_toInt_lt] at z ⊢
              rw [Int32.le_iff_toInt_le] at this
              omega
            refine ih (k + 1) k (by omega) (by omega) (by omega) (fun j hj => ?_) hk
            by_cases z2 : j = k
            · rw [z2]
              exact Int32.le_refl _
            · have := hk j (by omega)
              rw [Int32.lt_iff_toInt_lt] at this
              rw [Int32.le_iff_toInt_le]
              exact Int.le_of_lt this
    have := key F 0 0 (by omega) (Nat.zero_le _) (by omega) (fun j hj => absurd hj (Nat.not_lt_zero _)) (fun j hj => absurd hj (Nat.not_lt_zero _))
    rw [show (16 : Int32) * Int32.ofNat s = Int32.ofNat (16 * s + 0) from i_mc]
    exact this
