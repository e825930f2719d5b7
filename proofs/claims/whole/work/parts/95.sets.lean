/-! sets of servers in the reference -/
theorem b_bit {x : Int32} {p : Nat} : (x >>> Int32.ofNat p) &&& 1 = if aIn x p then 1 else 0 := by
  have h01 : ∀ y : Int32, y &&& 1 = 0 ∨ y &&& 1 = 1 := by
    intro y
    have e : (y &&& 1).toBitVec.toNat = y.toBitVec.toNat % 2 := by
      rw [Int32.toBitVec_and, BitVec.toNat_and]
      show y.toBitVec.toNat &&& 1 = _
      exact Nat.and_one_is_mod _
    have : y.toBitVec.toNat % 2 = 0 ∨ y.toBitVec.toNat % 2 = 1 := by omega
    rcases this with h | h
    · left
      apply Int32.toBitVec_inj.mp
      apply BitVec.eq_of_toNat_eq
      rw [e, h]; rfl
    · right
      apply Int32.toBitVec_inj.mp
      apply BitVec.eq_of_toNat_eq
      rw [e, h]; rfl
  unfold aIn
  rcases h01 (x >>> Int32.ofNat p) with h | h
  · rw [h]; rfl
  · rw [h]; rfl
def aCntN (x : Int32) (n : Nat) : Nat := ((List.range n).filter (aIn x)).length
theorem aCntN_s {x : Int32} {n : Nat} : aCntN x (n + 1) = aCntN x n + if aIn x n then 1 else 0 := by
  unfold aCntN
  rw [List.range_succ, List.filter_append, List.length_append]
  by_cases q : aIn x n
  · simp [q]
  · simp [q]
theorem i_31 {p : Nat} (h : p < 32) : Int32.ofNat p &&& 31 = Int32.ofNat p := by
  have := i_and (k := p) 5 (by decide)
  rw [Nat.mod_eq_of_lt (by omega)] at this
  exact this
theorem i_s {p : Nat} : Int32.ofNat p + 1 = Int32.ofNat (p + 1) := (Int32.ofNat_add p 1).symm
theorem i_ge {p q : Nat} (hp : p < 2147483648) (hq : q < 2147483648) : xc2 .ge (Int32.ofNat p) (Int32.ofNat q) = decide (q ≤ p) := by
  unfold xc2
  apply decide_eq_decide.mpr
  exact Int32.ofNat_le_ofNat hq hp
theorem m_size_l {F : Nat} {x : Int32} : ∀ (n k : Nat), k + n = 8 → m_size_b4 F n x (Int32.ofNat (aCntN x k)) (Int32.ofNat k) = some (Int32.ofNat (aCntN x 7)) ∨ n = 0 := by
  intro n
  induction n with
  | zero => exact fun k _ => Or.inr rfl
  | succ n ih =>
    intro k hk
    left
    show (if xc2 .ge (Int32.ofNat k) (Int32.ofNat 7) = true then _ else _) = _
    rw [i_ge (by omega) (by decide)]
    by_cases q : 7 ≤ k
    · have : k = 7 := by omega
      subst this
      rw [if_pos (by simp)]
    · rw [if_neg (by simp; omega)]
      show m_size_b4 F n x (Int32.ofNat (aCntN x k) + ((x >>> (Int32.ofNat k &&& 31)) &&& 1)) (Int32.ofNat k + 1) = _
      have e : Int32.ofNat (aCntN x k) + ((x >>> (Int32.ofNat k &&& 31)) &&& 1) = Int32.ofNat (aCntN x (k + 1)) := by
        rw [i_31 (by omega), b_bit, aCntN_s]
        by_cases z : aIn x k
        · simp [z, Int32.ofNat_add]
        · simp [z]
      rw [e, i_s]
      rcases ih (k + 1) (by omega) with h | h
      · exact h
      · omega
theorem m_size_up {F G : Nat} {x : Int32} : ∀ (n : Nat) (a b : Int32) (r : Int32), m_size_b4 F n x a b = some r → m_size_b4 G (n + 1) x a b = some r := by
  intro n
  induction n with
  | zero => intro a b r h; cases h
  | succ n ih =>
    intro a b r h
    unfold m_size_b4 at h ⊢
    by_cases q : xc2 .ge b 7 = true
    · rw [if_pos q] at h ⊢
      exact h
    · rw [if_neg q] at h ⊢
      exact ih _ _ _ h
theorem m_size_n {F : Nat} {x : Int32} (h : 8 ≤ F) : m_size F x = some (Int32.ofNat (aCnt x)) := by
  have h0 : ∀ n G, m_size_b4 G (8 + n) x 0 0 = some (Int32.ofNat (aCnt x)) := by
    intro n
    induction n with
    | zero =>
      intro G
      rcases m_size_l (F := G) (x := x) 8 0 rfl with h | h
      · exact h
      · omega
    | succ n ih => exact fun G => m_size_up (F := G) _ _ _ _ (ih G)
  have := h0 (F - 8) F
  rw [show 8 + (F - 8) = F by omega] at this
  exact this
theorem i_le {p q : Nat} (hp : p < 2147483648) (hq : q < 2147483648) : xc2 .le (Int32.ofNat p) (Int32.ofNat q) = decide (p ≤ q) := by
  unfold xc2
  apply decide_eq_decide.mpr
  exact Int32.ofNat_le_ofNat hp hq
theorem aCnt_le {x : Int32} : aCnt x ≤ 7 := by
  unfold aCnt
  exact Nat.le_trans (List.length_filter_le _ _) (by simp)
theorem m_old_n {σ : RS} {s : Nat} (h : s < 7) : m_old σ (Int32.ofNat s) = some (aOldM (σ.1 65 s), σ) := by
  unfold m_old
  rw [rld_n rfl (show s < rlen 65 from h)]
  rfl
theorem m_fresh_n {σ : RS} {s : Nat} (h : s < 7) : m_fresh σ (Int32.ofNat s) = some (aNewM (σ.1 65 s), σ) := by
  unfold m_fresh
  rw [rld_n rfl (show s < rlen 65 from h)]
  rfl
theorem m_learned_n {σ : RS} {s : Nat} (h : s < 7) : m_learned σ (Int32.ofNat s) = some (aLearn (σ.1 65 s), σ) := by
  unfold m_learned
  rw [rld_n rfl (show s < rlen 65 from h)]
  rfl
theorem m_voters_n {σ : RS} {s : Nat} (h : s < 7) : m_voters σ (Int32.ofNat s) = some (aOldM (σ.1 65 s) ||| aNewM (σ.1 65 s), σ) := by
  unfold m_voters
  rw [m_old_n h]
  simp only [Option.bind_some]
  rw [m_fresh_n h]
  rfl
theorem i_2 {k : Nat} : (2 : Int32) * Int32.ofNat k = Int32.ofNat (2 * k) := (Int32.ofNat_mul 2 k).symm
theorem m_isMajority_n {F : Nat} {σ : RS} {s : Nat} {set : Int32} (hF : 8 ≤ F) (h : s < 7) : m_isMajority F σ (Int32.ofNat s) set = some (aB (aMaj (σ.1 65 s) set), σ) := by
  have c1 := aCnt_le (x := set &&& aOldM (σ.1 65 s))
  have c2 := aCnt_le (x := aOldM (σ.1 65 s))
  have c3 := aCnt_le (x := set &&& aNewM (σ.1 65 s))
  have c4 := aCnt_le (x := aNewM (σ.1 65 s))
  unfold m_isMajority m_isMajority_b0
  rw [m_old_n h]
  simp only [Option.bind_some]
  rw [m_fresh_n h]
  simp only [Option.bind_some]
  rw [m_size_n hF, m_size_n hF]
  simp only [Option.bind_some]
  rw [i_2, i_le (by omega) (by omega)]
  unfold aMaj
  by_cases q : 2 * aCnt (set &&& aOldM (σ.1 65 s)) ≤ aCnt (aOldM (σ.1 65 s))
  · rw [if_pos (by simp [q])]
    have : ¬ aCnt (aOldM (σ.1 65 s)) < 2 * aCnt (set &&& aOldM (σ.1 65 s)) := by omega
    simp [this, aB, m_isMajority_b54, m_isMajority_b55]
  · rw [if_neg (by simp; omega)]
    have e1 : aCnt (aOldM (σ.1 65 s)) < 2 * aCnt (set &&& aOldM (σ.1 65 s)) := by omega
    by_cases q2 : aNewM (σ.1 65 s) = 0
    · rw [if_pos (by simp [xc0, q2])]
      simp [e1, q2, aB, m_isMajority_b50, m_isMajority_b55]
    · rw [if_neg (by simp [xc0, q2])]
      rw [m_size_n hF, m_size_n hF]
      simp only [Option.bind_some]
      rw [i_2, i_le (by omega) (by omega)]
      by_cases q3 : 2 * aCnt (set &&& aNewM (σ.1 65 s)) ≤ aCnt (aNewM (σ.1 65 s))
      · rw [if_pos (by simp [q3])]
        have : ¬ aCnt (aNewM (σ.1 65 s)) < 2 * aCnt (set &&& aNewM (σ.1 65 s)) := by omega
        simp [this, q2, aB, m_isMajority_b54, m_isMajority_b55]
      · rw [if_neg (by simp; omega)]
        have e3 : aCnt (aNewM (σ.1 65 s)) < 2 * aCnt (set &&& aNewM (σ.1 65 s)) := by omega
        simp [e1, e3, q2, aB, m_isMajority_b50, m_isMajority_b55]
theorem m_isVoter_n {σ : RS} {s p : Nat} (h : s < 7) (hp : p < 32) : m_isVoter σ (Int32.ofNat s) (Int32.ofNat p) = some (aB (aIn (aOldM (σ.1 65 s) ||| aNewM (σ.1 65 s)) p), σ) := by
  unfold m_isVoter m_isVoter_b0
  rw [m_voters_n h]
  simp only [Option.bind_some]
  rw [i_31 hp, b_bit]
  by_cases q : aIn (aOldM (σ.1 65 s) ||| aNewM (σ.1 65 s)) p
  · rw [if_pos q, if_neg (by decide)]
    simp [q, aB, m_isVoter_b18]
  · rw [if_neg q, if_pos (by decide)]
    simp [q, aB, m_isVoter_b18]
theorem i_eq {p q : Nat} (hp : p < 2147483648) (hq : q < 2147483648) : xc2 .eq (Int32.ofNat p) (Int32.ofNat q) = decide (p = q) := by
  unfold xc2
  apply decide_eq_decide.mpr
  constructor
  · intro h
    have := congrArg Int32.toNatClampNeg h
    rw [i_cl hp, i_cl hq] at this
    exact this
  · intro h
    rw [h]
theorem m_isPeer_n {σ : RS} {s p : Nat} (h : s < 7) (hp : p < 32) : m_isPeer σ (Int32.ofNat s) (Int32.ofNat p) = some (aB (!decide (p = s) && aIn ((aOldM (σ.1 65 s) ||| aNewM (σ.1 65 s)) ||| aLearn (σ.1 65 s)) p), σ) := by
  unfold m_isPeer m_isPeer_b0
  rw [i_eq (by omega) (by omega)]
  by_cases q : p = s
  · rw [if_pos (by simp [q])]
    simp [q, aB, m_isPeer_b28, m_isPeer_b29]
  · rw [if_neg (by simp [q])]
    rw [m_voters_n h]
    simp only [Option.bind_some]
    rw [m_learned_n h]
    simp only [Option.bind_some]
    rw [i_31 hp, b_bit]
    by_cases q2 : aIn ((aOldM (σ.1 65 s) ||| aNewM (σ.1 65 s)) ||| aLearn (σ.1 65 s)) p
    · rw [if_pos q2, if_neg (by decide)]
      simp [q, q2, aB, m_isPeer_b29]
    · rw [if_neg q2, if_pos (by decide)]
      simp [q, q2, aB, m_isPeer_b28, m_isPeer_b29]
