/-! which event is next -/
/-- not later -/
def kle (t1 n1 t2 n2 : Int32) : Prop := t1 < t2 ∨ (t1 = t2 ∧ n1 ≤ n2)
theorem kle_t {t1 n1 t2 n2 t3 n3 : Int32} (h : kle t1 n1 t2 n2) (h' : kle t2 n2 t3 n3) : kle t1 n1 t3 n3 := by
  unfold kle at *
  simp only [Int32.lt_iff_toInt_lt, Int32.le_iff_toInt_le, ← Int32.toInt_inj] at *
  omega
theorem kle_r {t n : Int32} : kle t n t n := Or.inr ⟨rfl, Int32.le_refl _⟩
/-- the best of those that were looked at -/
def Bst (σ : RS) (P : Int32 → Int32 → Int32 → Prop) : Prop := (σ.1 35 0 = -1 ∧ ∀ t n c, ¬ P t n c) ∨ (P (σ.1 33 0) (σ.1 34 0) (σ.1 35 0) ∧ 0 ≤ σ.1 35 0 ∧ ∀ t n c, P t n c → kle (σ.1 33 0) (σ.1 34 0) t n)
theorem M_look {σ : RS} {P : Int32 → Int32 → Int32 → Prop} {t n c : Int32} (h : Bst σ P) (hc : 0 ≤ c) : WP (m_look σ t n c) (fun τ => Fr [33, 34, 35] [] σ τ ∧ Bst τ (fun t' n' c' => P t' n' c' ∨ (t' = t ∧ n' = n ∧ c' = c))) := by
  have yes : (∀ t' n' c', P t' n' c' → kle t n t' n') → WP (m_look_b32 σ t n c) (fun τ => Fr [33, 34, 35] [] σ τ ∧ Bst τ (fun t' n' c' => P t' n' c' ∨ (t' = t ∧ n' = n ∧ c' = c))) := by
    intro hk
    unfold m_look_b32
    refine ⟨_, rfl, Fr_w (Fr_t (Fr_t Fr_I Fr_I) Fr_I) (by simp) (by simp), Or.inr ?_⟩
    have e33 : (setI (setI (setI σ 33 0 t) 34 0 n) 35 0 c).1 33 0 = t := by rw [setI_f (by decide), setI_f (by decide), setI_e]
    have e34 : (setI (setI (setI σ 33 0 t) 34 0 n) 35 0 c).1 34 0 = n := by rw [setI_f (by decide), setI_e]
    have e35 : (setI (setI (setI σ 33 0 t) 34 0 n) 35 0 c).1 35 0 = c := setI_e
    rw [e33, e34, e35]
    refine ⟨Or.inr ⟨rfl, rfl, rfl⟩, hc, fun t' n' c' hp => ?_⟩
    rcases hp with hp | ⟨rfl, rfl, rfl⟩
    · exact hk t' n' c' hp
    · exact kle_r
  have no : P (σ.1 33 0) (σ.1 34 0) (σ.1 35 0) → 0 ≤ σ.1 35 0 → (∀ t n c, P t n c → kle (σ.1 33 0) (σ.1 34 0) t n) → kle (σ.1 33 0) (σ.1 34 0) t n → WP (m_look_b31 σ) (fun τ => Fr [33, 34, 35] [] σ τ ∧ Bst τ (fun t' n' c' => P t' n' c' ∨ (t' = t ∧ n' = n ∧ c' = c))) := by
    intro h1 h2 h3 h4
    unfold m_look_b31
    refine ⟨_, rfl, ⟨fun _ _ => rfl, fun _ _ => rfl⟩, Or.inr ⟨Or.inl h1, h2, fun t' n' c' hp => ?_⟩⟩
    rcases hp with hp | ⟨rfl, rfl, rfl⟩
    · exact h3 t' n' c' hp
    · exact h4
  unfold m_look m_look_b0
  rcases h with ⟨h1, h2⟩ | ⟨h1, h2, h3⟩
  · refine WP_if c0_lt (fun _ => ?_) (fun y => ?_)
    · exact yes (fun t' n' c' hp => absurd hp (h2 t' n' c'))
    · rw [h1] at y
      exact absurd (by decide) y
  · refine WP_if c0_lt (fun y => absurd h2 (Int32.not_le.mpr y)) (fun _ => ?_)
    refine WP_if c2_gt (fun y => no h1 h2 h3 (Or.inl y)) (fun y => ?_)
    refine WP_if c2_ne (fun y2 => ?_) (fun y2 => ?_)
    · refine yes (fun t' n' c' hp => kle_t (Or.inl ?_) (h3 t' n' c' hp))
      rw [Int32.lt_iff_toInt_lt] at y ⊢
      have : t.toInt ≠ (σ.1 33 0).toInt := fun z => y2 (Int32.toInt_inj.mp z)
      omega
    · have y2 := Classical.not_not.mp y2
      refine WP_if c2_le (fun y3 => ?_) (fun y3 => ?_)
      · exact yes (fun t' n' c' hp => kle_t (Or.inr ⟨y2, y3⟩) (h3 t' n' c' hp))
      · refine no h1 h2 h3 (Or.inr ⟨y2.symm, ?_⟩)
        rw [Int32.le_iff_toInt_le] at y3 ⊢
        omega
/-- what may happen: letters, alarms, syncs -/
def cnL (σ : RS) (m : Nat) (t n c : Int32) : Prop := ∃ k, k < m ∧ ¬ σ.1 17 k = 0 ∧ t = σ.1 18 k ∧ n = σ.1 19 k ∧ c = Int32.ofNat k
def cnA (σ : RS) (m : Nat) (t n c : Int32) : Prop := ∃ k, k < m ∧ 0 ≤ σ.1 29 k ∧ t = σ.1 30 k ∧ n = σ.1 29 k ∧ c = Int32.ofNat (200 + k)
def cnS (σ : RS) (m : Nat) (t n c : Int32) : Prop := ∃ k, k < m ∧ 0 ≤ σ.1 31 k ∧ t = σ.1 32 k ∧ n = σ.1 31 k ∧ c = Int32.ofNat (300 + k)
theorem Bst_iff {σ : RS} {P Q : Int32 → Int32 → Int32 → Prop} (h : ∀ t n c, P t n c ↔ Q t n c) (b : Bst σ P) : Bst σ Q := by
  rcases b with ⟨b1, b2⟩ | ⟨b1, b2, b3⟩
  · exact Or.inl ⟨b1, fun t n c hq => b2 t n c ((h t n c).mpr hq)⟩
  · exact Or.inr ⟨(h _ _ _).mp b1, b2, fun t n c hq => b3 t n c ((h t n c).mpr hq)⟩
theorem m_findNext_c {F : Nat} {σ : RS} (hF : 200 ≤ F) : WP (m_findNext F σ) (fun τ => Fr [33, 34, 35] [] σ τ ∧ Bst τ (fun t n c => cnL σ 128 t n c ∨ cnA σ 16 t n c ∨ cnS σ 7 t n c)) := by
  have ad : ∀ {τ τ' : RS}, Fr [33, 34, 35] [] σ τ → Fr [33, 34, 35] [] τ τ' → Fr [33, 34, 35] [] σ τ' := fun h h' => Fr_w (Fr_t h h') (by simp) (by simp)
  have l3 : ∀ n k (τ : RS), 8 ≤ k + n → k ≤ 7 → Fr [33, 34, 35] [] σ τ → Bst τ (fun t n c => cnL σ 128 t n c ∨ cnA σ 16 t n c ∨ cnS σ k t n c) → WP (m_findNext_b92 F n τ (Int32.ofNat k)) (fun τ => Fr [33, 34, 35] [] σ τ ∧ Bst τ (fun t n c => cnL σ 128 t n c ∨ cnA σ 16 t n c ∨ cnS σ 7 t n c)) := by
    intro n
    induction n with
    | zero => intro k τ h1 h2; omega
    | succ n ih =>
      intro k τ h1 h2 hF1 hb
      unfold m_findNext_b92
      refine WP_if (p := 7 ≤ k) (i_gei (q := 7) (by omega) (by omega)) (fun q => ?_) (fun q => ?_)
      · have : k = 7 := by omega
        subst this
        exact WP_some ⟨hF1, hb⟩
      · refine WP_ld rfl 7 (by decide +kernel) (by omega) ?_
        unfold m_findNext_b128
        rw [i_s]
        rw [hF1.1 31 (by decide)]
        refine WP_if c0_lt (fun y => ?_) (fun y => ?_)
        · refine ih (k + 1) τ (by omega) (by omega) hF1 (Bst_iff (fun t n c => ?_) hb)
          refine or_congr Iff.rfl (or_congr Iff.rfl ⟨?_, ?_⟩)
          · rintro ⟨j, j1, j2⟩
            exact ⟨j, by omega, j2⟩
          · rintro ⟨j, j1, j2, j3⟩
            refine ⟨j, ?_, j2, j3⟩
            by_cases z : j = k
            · rw [z] at j2
              exact absurd j2 (Int32.not_le.mpr y)
            · omega
        · refine WP_ld rfl 7 (by decide +kernel) (by omega) ?_
          refine WP_ld rfl 7 (by decide +kernel) (by omega) ?_
          rw [hF1.1 31 (by decide), hF1.1 32 (by decide), show (300 : Int32) + Int32.ofNat k = Int32.ofNat (300 + k) from i_ad (c := 300)]
          refine WP_call (M_look hb (by rw [show (0 : Int32) = Int32.ofNat 0 from rfl, i_ltn (by omega) (by omega)]; omega)) (fun τ2 h2 => ?_)
          refine ih (k + 1) τ2 (by omega) (by omega) (ad hF1 h2.1) (Bst_iff (fun t n c => ?_) h2.2)
          constructor
          · rintro ((z | z | ⟨j, j1, j2⟩) | ⟨z1, z2, z3⟩)
            · exact Or.inl z
            · exact Or.inr (Or.inl z)
            · exact Or.inr (Or.inr ⟨j, by omega, j2⟩)
            · exact Or.inr (Or.inr ⟨k, by omega, Int32.not_lt.mp y, z1, z2, z3⟩)
          · rintro (z | z | ⟨j, j1, j2, j3, j4, j5⟩)
            · exact Or.inl (Or.inl z)
            · exact Or.inl (Or.inr (Or.inl z))
            · by_cases z : j = k
              · subst z
                exact Or.inr ⟨j3, j4, j5⟩
              · exact Or.inl (Or.inr (Or.inr ⟨j, by omega, j2, j3, j4, j5⟩))
  have l2 : ∀ n k (τ : RS), 17 ≤ k + n → k ≤ 16 → Fr [33, 34, 35] [] σ τ → Bst τ (fun t n c => cnL σ 128 t n c ∨ cnA σ k t n c) → WP (m_findNext_b48 F n τ (Int32.ofNat k)) (fun τ => Fr [33, 34, 35] [] σ τ ∧ Bst τ (fun t n c => cnL σ 128 t n c ∨ cnA σ 16 t n c ∨ cnS σ 7 t n c)) := by
    intro n
    induction n with
    | zero => intro k τ h1 h2; omega
    | succ n ih =>
      intro k τ h1 h2 hF1 hb
      unfold m_findNext_b48
      refine WP_if (p := 16 ≤ k) (i_gei (q := 16) (by omega) (by omega)) (fun q => ?_) (fun q => ?_)
      · have : k = 16 := by omega
        subst this
        refine l3 F 0 τ (by omega) (by omega) hF1 (Bst_iff (fun t n c => ⟨fun z => z.elim Or.inl (fun y => Or.inr (Or.inl y)), ?_⟩) hb)
        rintro (z | z | ⟨j, j1, _⟩)
        · exact Or.inl z
        · exact Or.inr z
        · omega
      · refine WP_ld rfl 16 (by decide +kernel) (by omega) ?_
        unfold m_findNext_b84
        rw [i_s]
        rw [hF1.1 29 (by decide)]
        refine WP_if c0_lt (fun y => ?_) (fun y => ?_)
        · refine ih (k + 1) τ (by omega) (by omega) hF1 (Bst_iff (fun t n c => ?_) hb)
          refine or_congr Iff.rfl ⟨?_, ?_⟩
          · rintro ⟨j, j1, j2⟩
            exact ⟨j, by omega, j2⟩
          · rintro ⟨j, j1, j2, j3⟩
            refine ⟨j, ?_, j2, j3⟩
            by_cases z : j = k
            · rw [z] at j2
              exact absurd j2 (Int32.not_le.mpr y)
            · omega
        · refine WP_ld rfl 16 (by decide +kernel) (by omega) ?_
          refine WP_ld rfl 16 (by decide +kernel) (by omega) ?_
          rw [hF1.1 29 (by decide), hF1.1 30 (by decide), show (200 : Int32) + Int32.ofNat k = Int32.ofNat (200 + k) from i_ad (c := 200)]
          refine WP_call (M_look hb (by rw [show (0 : Int32) = Int32.ofNat 0 from rfl, i_ltn (by omega) (by omega)]; omega)) (fun τ2 h2 => ?_)
          refine ih (k + 1) τ2 (by omega) (by omega) (ad hF1 h2.1) (Bst_iff (fun t n c => ?_) h2.2)
          constructor
          · rintro ((z | ⟨j, j1, j2⟩) | ⟨z1, z2, z3⟩)
            · exact Or.inl z
            · exact Or.inr ⟨j, by omega, j2⟩
            · exact Or.inr ⟨k, by omega, Int32.not_lt.mp y, z1, z2, z3⟩
          · rintro (z | ⟨j, j1, j2, j3, j4, j5⟩)
            · exact Or.inl (Or.inl z)
            · by_cases z : j = k
              · subst z
                exact Or.inr ⟨j3, j4, j5⟩
              · exact Or.inl (Or.inr ⟨j, by omega, j2, j3, j4, j5⟩)
  have l1 : ∀ n k (τ : RS), 129 ≤ k + n → k ≤ 128 → Fr [33, 34, 35] [] σ τ → Bst τ (fun t n c => cnL σ k t n c) → WP (m_findNext_b7 F n τ (Int32.ofNat k)) (fun τ => Fr [33, 34, 35] [] σ τ ∧ Bst τ (fun t n c => cnL σ 128 t n c ∨ cnA σ 16 t n c ∨ cnS σ 7 t n c)) := by
    intro n
    induction n with
    | zero => intro k τ h1 h2; omega
    | succ n ih =>
      intro k τ h1 h2 hF1 hb
      unfold m_findNext_b7
      refine WP_if (p := 128 ≤ k) (i_gei (q := 128) (by omega) (by omega)) (fun q => ?_) (fun q => ?_)
      · have : k = 128 := by omega
        subst this
        refine l2 F 0 τ (by omega) (by omega) hF1 (Bst_iff (fun t n c => ⟨Or.inl, ?_⟩) hb)
        rintro (z | ⟨j, j1, _⟩)
        · exact z
        · omega
      · refine WP_ld rfl 128 (by decide +kernel) (by omega) ?_
        unfold m_findNext_b40
        rw [i_s]
        rw [hF1.1 17 (by decide)]
        refine WP_if c0_eq (fun y => ?_) (fun y => ?_)
        · refine ih (k + 1) τ (by omega) (by omega) hF1 (Bst_iff (fun t n c => ⟨?_, ?_⟩) hb)
          · rintro ⟨j, j1, j2⟩
            exact ⟨j, by omega, j2⟩
          · rintro ⟨j, j1, j2, j3⟩
            refine ⟨j, ?_, j2, j3⟩
            by_cases z : j = k
            · rw [z] at j2
              exact absurd y j2
            · omega
        · refine WP_ld rfl 128 (by decide +kernel) (by omega) ?_
          refine WP_ld rfl 128 (by decide +kernel) (by omega) ?_
          rw [hF1.1 18 (by decide), hF1.1 19 (by decide)]
          refine WP_call (M_look hb (by rw [show (0 : Int32) = Int32.ofNat 0 from rfl, i_ltn (by omega) (by omega)]; omega)) (fun τ2 h2 => ?_)
          refine ih (k + 1) τ2 (by omega) (by omega) (ad hF1 h2.1) (Bst_iff (fun t n c => ?_) h2.2)
          constructor
          · rintro (⟨j, j1, j2⟩ | ⟨z1, z2, z3⟩)
            · exact ⟨j, by omega, j2⟩
            · exact ⟨k, by omega, y, z1, z2, z3⟩
          · rintro ⟨j, j1, j2, j3, j4, j5⟩
            by_cases z : j = k
            · subst z
              exact Or.inr ⟨j3, j4, j5⟩
            · exact Or.inl ⟨j, by omega, j2, j3, j4, j5⟩
  unfold m_findNext m_findNext_b0
  show WP (m_findNext_b7 F F (setI σ 35 0 (-1)) (Int32.ofNat 0)) _
  refine l1 F 0 _ (by omega) (by omega) (Fr_w (Fr_I (f := 35)) (by simp) (by simp)) (Or.inl ⟨setI_e, ?_⟩)
  rintro t n c ⟨j, j1, _⟩
  omega
