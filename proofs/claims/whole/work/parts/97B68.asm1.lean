/-! pieces of a snapshot come: their bytes -/
def asEnd (F : Nat) (τ : RS) (l1 l2 l3 l4 l5 l6 l7 l9 : Int32) : Option RS :=
      (rld τ 70 l1).bind fun x90 =>
      (rst τ 70 l1 ((x90 + l9))).bind fun σ92 =>
      (rld σ92 70 l1).bind fun x94 =>
      if xc2 .lt x94 l7 = true then (
        m_assemble_b420 F  σ92 l1 l2 l3 l4 x94
      ) else (
        (rld σ92 56 l1).bind fun x108 =>
        if xc2 .gt l4 x108 = true then (
          m_assemble_b255 F  σ92 l1 l2 l3 l4 l5 l6 l7 x94
        ) else (
          (m_termAt σ92 l1 l4).bind fun p111 =>
          if xc2 .ne p111.1 l5 = true then (
            m_assemble_b255 F  p111.2 l1 l2 l3 l4 l5 l6 l7 x94
          ) else (
            m_assemble_b256 F  p111.2 ((1 : Int32)) l1 l2 l3 l4 l5 l6 l7 x94
          )
        )
      )
theorem asm_in {F : Nat} {σ : RS} {s fr cnt : Nat} {l2 l3 l4 l5 l6 l7 : Int32} {Q : RS → Prop} (hs : s < 7) (hfr : fr + cnt ≤ 14000) (hc : cnt ≤ 1536)
    (fin : ∀ τ : RS, Fr [68] [] σ τ → (∀ i, (i < 14000 * s + fr ∨ 14000 * s + fr + cnt ≤ i) → τ.1 68 i = σ.1 68 i) → (∀ y, y < cnt → τ.1 68 (14000 * s + (fr + y)) = rLb σ 353 y) → WP (asEnd F τ (Int32.ofNat s) l2 l3 l4 l5 l6 l7 (Int32.ofNat cnt)) Q) :
    ∀ n j (τ : RS), cnt + 1 ≤ j + n → j ≤ cnt → Fr [68] [] σ τ → (∀ i, (i < 14000 * s + fr ∨ 14000 * s + fr + j ≤ i) → τ.1 68 i = σ.1 68 i) → (∀ y, y < j → τ.1 68 (14000 * s + (fr + y)) = rLb σ 353 y) → WP (m_assemble_b163 F n τ (Int32.ofNat s) l2 l3 l4 l5 l6 l7 (Int32.ofNat fr) (Int32.ofNat cnt) (Int32.ofNat j)) Q := by
  intro n
  induction n with
  | zero => intro j τ h1 h2; omega
  | succ n ih =>
    intro j τ h1 h2 h3 h4 h5
    unfold m_assemble_b163
    refine WP_if (i_gei (by omega) (by omega)) (fun q => ?_) (fun q => ?_)
    · have : j = cnt := by omega
      subst this
      exact fin τ h3 h4 h5
    · rw [show (542208 : Int32) + Int32.ofNat j = Int32.ofNat (1536 * 353 + j) by
        rw [show (542208 : Int32) = Int32.ofNat (1536 * 353) from rfl, i_ad], show (14000 : Int32) * Int32.ofNat s + Int32.ofNat fr + Int32.ofNat j = Int32.ofNat (14000 * s + (fr + j)) by
        rw [show (14000 : Int32) = Int32.ofNat 14000 from rfl, i_ma, i_ad, Nat.add_assoc]]
      refine WP_eq (m_inLetter_n (by omega)) ?_
      refine WP_st rfl 98000 (by decide +kernel) (by omega) ?_
      rw [i_s]
      have e16 : τ.2 16 = σ.2 16 := h3.2 16 (by decide)
      refine ih (j + 1) _ (by omega) (by omega) (Fr_w (Fr_t h3 Fr_I) (by simp) (by simp)) (fun i hi => ?_) (fun y hy => ?_)
      · rw [setI_i (by omega)]
        exact h4 i (by omega)
      · by_cases z : y = j
        · rw [z, setI_e, rB_8, e16]
          rfl
        · rw [setI_i (by omega)]
          exact h5 y (by omega)
/-- the pieces become the snapshot -/
theorem asm_out {F : Nat} {σ : RS} {s L : Nat} {l2 l3 l4 l5 l6 l10 l11 : Int32} {Q : RS → Prop} (hs : s < 7) (hL : L ≤ 14000)
    (fin : ∀ τ : RS, Fr [66] [] σ τ → (∀ i, (i < 14000 * s ∨ 14000 * s + L ≤ i) → τ.1 66 i = σ.1 66 i) → (∀ y, y < L → τ.1 66 (14000 * s + y) = (σ.1 68 (14000 * s + y)).toInt8.toInt32) → WP ((rst τ 67 (Int32.ofNat s) (Int32.ofNat L)).bind fun σ36 =>
      (rst σ36 55 (Int32.ofNat s) l4).bind fun σ38 =>
      (rst σ38 57 (Int32.ofNat s) l5).bind fun σ40 =>
      (rst σ40 58 (Int32.ofNat s) l6).bind fun σ42 =>
      if xc0 .ne l11 = true then (
        m_assemble_b345 F  σ42 (Int32.ofNat s) l2 l3 l4 l10
      ) else (
        (rst σ42 56 (Int32.ofNat s) l4).bind fun σ45 =>
        m_assemble_b345 F  σ45 (Int32.ofNat s) l2 l3 l4 l10
      )) Q) :
    ∀ n j (τ : RS), L + 1 ≤ j + n → j ≤ L → Fr [66] [] σ τ → (∀ i, (i < 14000 * s ∨ 14000 * s + j ≤ i) → τ.1 66 i = σ.1 66 i) → (∀ y, y < j → τ.1 66 (14000 * s + y) = (σ.1 68 (14000 * s + y)).toInt8.toInt32) → WP (m_assemble_b261 F n τ (Int32.ofNat s) l2 l3 l4 l5 l6 (Int32.ofNat L) l10 l11 (Int32.ofNat j)) Q := by
  intro n
  induction n with
  | zero => intro j τ h1 h2; omega
  | succ n ih =>
    intro j τ h1 h2 h3 h4 h5
    unfold m_assemble_b261
    refine WP_if (i_gei (by omega) (by omega)) (fun q => ?_) (fun q => ?_)
    · have : j = L := by omega
      subst this
      exact fin τ h3 h4 h5
    · rw [show (14000 : Int32) * Int32.ofNat s + Int32.ofNat j = Int32.ofNat (14000 * s + j) from i_ma]
      refine WP_ld rfl 98000 (by decide +kernel) (by omega) ?_
      refine WP_st rfl 98000 (by decide +kernel) (by omega) ?_
      rw [i_s, h3.1 68 (by decide)]
      refine ih (j + 1) _ (by omega) (by omega) (Fr_w (Fr_t h3 Fr_I) (by simp) (by simp)) (fun i hi => ?_) (fun y hy => ?_)
      · rw [setI_i (by omega)]
        exact h4 i (by omega)
      · by_cases z : y = j
        · rw [z, setI_e]
        · rw [setI_i (by omega)]
          exact h5 y (by omega)
