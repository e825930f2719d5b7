/-! sets of servers in the reference -/
theorem b_bit {x : Int32} {p : Nat} : (x >>> Int32.ofNat p) &&& 1 = if aIn x p then 1 else 0 := by
  have h01 : ∀ y : Int32, y &&& 1 = 0 ∨ y &&& 1 = 1 := by
    intro y
    have e : (y &&& 1).toBitVec.toNat = y.toBitVec.toNat % 2 := by
      rw [Int32.toBitVec_and, BitVec.toNat_and]
      show y.toBitVec.toNat &&& 1 = _
      exact Nat.and_one_is_mod _
    have : y.toBitVec.toNat % 2 = 0 ∨ y.toBitVec.toNat % 2 = 1 := by omega
    rcases this with h | h
    · left
      apply Int32.toBitVec_inj.mp
      apply BitVec.eq_of_toNat_eq
      rw [e, h]; rfl
    · right
      apply Int32.toBitVec_inj.mp
      apply BitVec.eq_of_toNat_eq
      rw [e, h]; rfl
  unfold aIn
  rcases h01 (x >>> Int32.ofNat p) with h | h
  · rw [h]; rfl
  · rw [h]; rfl
def aCntN (x : Int32) (n : Nat) : Nat := ((List.range n).filter (aIn x)).length
theorem aCntN_s {x : Int32} {n : Nat} : aCntN x (n + 1) = aCntN x n + if aIn x n then 1 else 0 := by
  unfold aCntN
  rw [List.range_succ, List.filter_append, List.length_append]
  by_cases q : aIn x n
  · simp [q]
  · simp [q]
theorem i_31 {p : Nat} (h : p < 32) : Int32.ofNat p &&& 31 = Int32.ofNat p := by
  have := i_and (k := p) 5 (by decide)
  rw [Nat.mod_eq_of_lt (by omega)] at this
  exact this
theorem i_s {p : Nat} : Int32.ofNat p + 1 = Int32.ofNat (p + 1) := (Int32.ofNat_add p 1).symm
theorem i_ge {p q : Nat} (hp : p < 2147483648) (hq : q < 2147483648) : xc2 .ge (Int32.ofNat p) (Int32.ofNat q) = decide (q ≤ p) := by
  unfold xc2
  apply decide_eq_decide.mpr
  exact Int32.ofNat_le_ofNat hq hp
theorem m_size_l {F : Nat} {x : Int32} : ∀ (n k : Nat), k + n = 8 → m_size_b4 F n x (Int32.ofNat (aCntN x k)) (Int32.ofNat k) = some (Int32.ofNat (aCntN x 7)) ∨ n = 0 := by
  intro n
  induction n with
  | zero => exact fun k _ => Or.inr rfl
  | succ n ih =>
    intro k hk
    left
    show (if xc2 .ge (Int32.ofNat k) (Int32.ofNat 7) = true then _ else _) = _
    rw [i_ge (by omega) (by decide)]
    by_cases q : 7 ≤ k
    · have : k = 7 := by omega
      subst this
      rw [if_pos (by simp)]
    · rw [if_neg (by simp; omega)]
      show m_size_b4 F n x (Int32.ofNat (aCntN x k) + ((x >>> (Int32.ofNat k &&& 31)) &&& 1)) (Int32.ofNat k + 1) = _
      have e : Int32.ofNat (aCntN x k) + ((x >>> (Int32.ofNat k &&& 31)) &&& 1) = Int32.ofNat (aCntN x (k + 1)) := by
        rw [i_31 (by omega), b_bit, aCntN_s]
        by_cases z : aIn x k
        · simp [z, Int32.ofNat_add]
        · simp [z]
      rw [e, i_s]
      rcases ih (k + 1) (by omega) with h | h
      · exact h
      · omega
theorem m_size_up {F G : Nat} {x : Int32} : ∀ (n : Nat) (a b : Int32) (r : Int32), m_size_b4 F n x a b = some r → m_size_b4 G (n + 1) x a b = some r := by
  intro n
  induction n with
  | zero => intro a b r h; cases h
  | succ n ih =>
    intro a b r h
    unfold m_size_b4 at h ⊢
    by_cases q : xc2 .ge b 7 = true
    · rw [if_pos q] at h ⊢
      exact h
    · rw [if_neg q] at h ⊢
      exact ih _ _ _ h
theorem m_size_n {F : Nat} {x : Int32} (h : 8 ≤ F) : m_size F x = some (Int32.ofNat (aCnt x)) := by
  have h0 : ∀ n G, m_size_b4 G (8 + n) x 0 0 = some (Int32.ofNat (aCnt x)) := by
    intro n
    induction n with
    | zero =>
      intro G
      rcases m_size_l (F := G) (x := x) 8 0 rfl with h | h
      · exact h
      · omega
    | succ n ih => exact fun G => m_size_up (F := G) _ _ _ _ (ih G)
  have := h0 (F - 8) F
  rw [show 8 + (F - 8) = F by omega] at this
  exact this
