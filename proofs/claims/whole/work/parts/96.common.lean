/-! what a majority has, in the reference -/
def fW (w : Nat) : Nat := if w = 0 then 87 else if w = 1 then 92 else 91
theorem fW_len {w : Nat} : rlen (fW w) = 49 := by
  unfold fW
  by_cases q : w = 0
  · rw [if_pos q]; decide +kernel
  · rw [if_neg q]
    by_cases q2 : w = 1
    · rw [if_pos q2]; decide +kernel
    · rw [if_neg q2]; decide +kernel
theorem i_7 {s p : Nat} : (7 : Int32) * Int32.ofNat s + Int32.ofNat p = Int32.ofNat (7 * s + p) := by
  rw [Int32.ofNat_add, Int32.ofNat_mul]
  rfl
theorem aReach_s {x : Nat → Int32} {v : Int32} {p : Nat} : aReach x v (p + 1) = if v ≤ x p then aReach x v p ||| (1 <<< Int32.ofNat p) else aReach x v p := rfl
theorem aCommon_s {c : Int32} {x : Nat → Int32} {p : Nat} : aCommon c x (p + 1) = if aCommon c x p < x p ∧ aMaj c (aReach x (x p) 7) then x p else aCommon c x p := rfl
/-- one of three rows is read -/
theorem c_three {α : Type} {σ : RS} {s w k : Nat} {G : Int32 → Option α} (hs : s < 7) (hw : w < 3) (hk : k < 7) :
    (if xc0 .ne (Int32.ofNat w) = true then (if xc2 .ne (Int32.ofNat w) 1 = true then (rld σ 91 (7 * Int32.ofNat s + Int32.ofNat k)).bind G else (rld σ 92 (7 * Int32.ofNat s + Int32.ofNat k)).bind G) else (rld σ 87 (7 * Int32.ofNat s + Int32.ofNat k)).bind G) = G (σ.1 (fW w) (7 * s + k)) := by
  have l := @fW_len
  have : w = 0 ∨ w = 1 ∨ w = 2 := by omega
  rcases this with rfl | rfl | rfl
  · rw [if_neg (by decide), rld_n i_7 (show 7 * s + k < rlen 87 from (l (w := 0) : rlen 87 = 49) ▸ (by omega))]
    rfl
  · rw [if_pos (by decide), if_neg (by decide), rld_n i_7 (show 7 * s + k < rlen 92 from (l (w := 1) : rlen 92 = 49) ▸ (by omega))]
    rfl
  · rw [if_pos (by decide), if_pos (by decide), rld_n i_7 (show 7 * s + k < rlen 91 from (l (w := 2) : rlen 91 = 49) ▸ (by omega))]
    rfl
theorem cm73 {F : Nat} {K7 : RS → Int32 → Int32 → Int32 → Int32 → Option (Int32 × RS)} {σ : RS} {s w : Nat} (hs : s < 7) (hw : w < 3) (hF : 8 ≤ F) {l3 l4 l5 : Int32} : ∀ n k, 8 ≤ k + n → k ≤ 7 →
    m_common_b73 F K7 n σ (Int32.ofNat s) (Int32.ofNat w) l3 l4 l5 (aReach (fun p => σ.1 (fW w) (7 * s + p)) l5 k) (Int32.ofNat k) = K7 σ (Int32.ofNat s) (Int32.ofNat w) (if l3 < l5 ∧ aMaj (σ.1 65 s) (aReach (fun p => σ.1 (fW w) (7 * s + p)) l5 7) then l5 else l3) (l4 + 1) := by
  intro n
  induction n with
  | zero => intro k h1 h2; omega
  | succ n ih =>
    intro k h1 h2
    unfold m_common_b73
    show (if xc2 .ge (Int32.ofNat k) (Int32.ofNat 7) = true then _ else _) = _
    rw [i_ge (by omega) (by decide)]
    by_cases q : 7 ≤ k
    · have : k = 7 := by omega
      subst this
      rw [if_pos (by simp)]
      by_cases q1 : l5 ≤ l3
      · rw [if_pos (by simp [xc2, q1])]
        have : ¬ l3 < l5 := Int32.not_lt.mpr q1
        rw [if_neg (fun z => this z.1)]
        rfl
      · have q2 : l3 < l5 := Int32.not_le.mp q1
        rw [if_neg (by simp [xc2, q2]), m_isMajority_n hF hs]
        simp only [Option.bind_some]
        by_cases q3 : aMaj (σ.1 65 s) (aReach (fun p => σ.1 (fW w) (7 * s + p)) l5 7)
        · rw [if_neg (by simp [xc0, aB, q3]), if_pos ⟨q2, q3⟩]
          rfl
        · rw [if_pos (by simp [xc0, aB, q3]), if_neg (fun z => q3 z.2)]
          rfl
    · rw [if_neg (by simp; omega), c_three hs hw (by omega)]
      unfold m_common_b131
      have e := ih (k + 1) (by omega) (by omega)
      rw [aReach_s] at e
      by_cases q1 : l5 ≤ σ.1 (fW w) (7 * s + k)
      · rw [if_neg (by simp [xc2, q1])]
        rw [if_pos q1, ← i_s] at e
        rw [i_31 (by omega)]
        exact e
      · rw [if_pos (by simp [xc2, Int32.not_le.mp q1])]
        rw [if_neg q1, ← i_s] at e
        show m_common_b73 F K7 n σ _ _ l3 l4 l5 (aReach (fun p => σ.1 (fW w) (7 * s + p)) l5 k ||| 0) _ = _
        rw [Int32.or_zero]
        exact e
theorem cm7 {F : Nat} {σ : RS} {s w : Nat} (hs : s < 7) (hw : w < 3) (hF : 8 ≤ F) : ∀ n k, 8 ≤ k + n → k ≤ 7 →
    m_common_b7 F n σ (Int32.ofNat s) (Int32.ofNat w) (aCommon (σ.1 65 s) (fun p => σ.1 (fW w) (7 * s + p)) k) (Int32.ofNat k) = some (aCommon (σ.1 65 s) (fun p => σ.1 (fW w) (7 * s + p)) 7, σ) := by
  intro n
  induction n with
  | zero => intro k h1 h2; omega
  | succ n ih =>
    intro k h1 h2
    unfold m_common_b7
    show (if xc2 .ge (Int32.ofNat k) (Int32.ofNat 7) = true then _ else _) = _
    rw [i_ge (by omega) (by decide)]
    by_cases q : 7 ≤ k
    · have : k = 7 := by omega
      subst this
      rw [if_pos (by simp)]
    · rw [if_neg (by simp; omega), c_three hs hw (by omega)]
      unfold m_common_b65
      rw [show (0 : Int32) = aReach (fun p => σ.1 (fW w) (7 * s + p)) (σ.1 (fW w) (7 * s + k)) 0 from rfl]
      rw [show aReach (fun p => σ.1 (fW w) (7 * s + p)) (σ.1 (fW w) (7 * s + k)) 0 = Int32.ofNat 0 from rfl]
      have := cm73 (K7 := m_common_b7 F n) (σ := σ) (l3 := aCommon (σ.1 65 s) (fun p => σ.1 (fW w) (7 * s + p)) k) (l4 := Int32.ofNat k) (l5 := σ.1 (fW w) (7 * s + k)) hs hw hF F 0 (by omega) (by omega)
      rw [show aReach (fun p => σ.1 (fW w) (7 * s + p)) (σ.1 (fW w) (7 * s + k)) 0 = Int32.ofNat 0 from rfl] at this
      rw [this, i_s]
      exact ih (k + 1) (by omega) (by omega)
theorem m_common_n {F : Nat} {σ : RS} {s w : Nat} (hs : s < 7) (hw : w < 3) (hF : 8 ≤ F) : m_common F σ (Int32.ofNat s) (Int32.ofNat w) = some (aCommon (σ.1 65 s) (fun p => σ.1 (fW w) (7 * s + p)) 7, σ) :=
  cm7 hs hw hF F 0 (by omega) (by omega)
