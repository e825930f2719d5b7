/-! the face: files, clients, history, bytes -/
theorem fileOf_n {p f : Nat} : m_fileOf (Int32.ofNat p) (Int32.ofNat f) = some (Int32.ofNat (2 * (16 * p + f))) := by
  unfold m_fileOf
  rw [i_16, i_2]
theorem F_file {σ : RS} {a : AA} {u : AU} {s f what : Int32} (h : RM σ a u) : FW (m_file σ s f what) (A_file (aI a 0 0 0) s f what) u := by
  unfold A_file m_file m_file_b0 m_file_b41
  have thr : ∀ v, FW (m_file_b42 σ 1 s f what) (aI a 0 0 0, 1, v) u := by
    intro v
    unfold m_file_b42
    refine FW_no (by decide) (WP_th h (fun τ hτ e0 => ?_))
    rw [e0]
    exact WP_if c0_le (fun y => absurd y (by decide)) (fun _ => WP_some hτ)
  by_cases q1 : aInR s 0 6 = true
  · by_cases q2 : aInR f 0 15 = true
    · by_cases q3 : aInR what 0 4 = true
      · rw [q1, q2, q3]
        simp only [Bool.not_true, Bool.or_self, Bool.false_eq_true, if_false]
        refine FW_ok rfl (WP_in (lo' := 0) (hi' := 6) (by decide) (by decide) (fun _ => ?_) (fun y => by rw [q1] at y; exact absurd y (by decide)))
        refine WP_if c0_eq (fun y => absurd (show (1 : Int32) = 0 from y) (by decide)) (fun _ => ?_)
        refine WP_in (lo' := 0) (hi' := 15) (by decide) (by decide) (fun _ => ?_) (fun y => by rw [q2] at y; exact absurd y (by decide))
        refine WP_if c0_eq (fun y => absurd (show (1 : Int32) = 0 from y) (by decide)) (fun _ => ?_)
        refine WP_in (lo' := 0) (hi' := 4) (by decide) (by decide) (fun _ => ?_) (fun y => by rw [q3] at y; exact absurd y (by decide))
        refine WP_if c0_eq (fun y => absurd (show (1 : Int32) = 0 from y) (by decide)) (fun _ => ?_)
        unfold m_file_b42
        refine WP_th h (fun τ hτ e0 => ?_)
        rw [e0]
        refine WP_if c0_le (fun _ => ?_) (fun y => absurd (by decide) y)
        obtain ⟨p, e1, hp⟩ := in_nat2 (hi := 6) (by omega) q1
        obtain ⟨g, e2, hg⟩ := in_nat2 (hi := 15) (by omega) q2
        have hp7 : p < 7 := by omega
        rw [e1, e2, i_cl (by omega), i_cl (by omega)]
        obtain ⟨d1, d2, _, _⟩ := hτ.2.2.2.2.2.1 p hp7 g (by omega)
        have lc := hτ.2.2.2.2.2.2.2.2.2.2.2.2.2.2.2.2.2.2.2.1.2.2.1 p hp7 g (by omega)
        generalize aI a 0 0 0 = b at hτ d1 d2 lc
        obtain ⟨x1, x2, x3, ⟨S, y1, y2, y3, _⟩, _⟩ := d1
        obtain ⟨z1, z2, z3, ⟨T, w1, w2, w3, _⟩, _⟩ := d2
        have x1 : τ.1 38 (2 * (16 * p + g)) = (aFc b p g).1 0 := x1
        have x3 : τ.1 37 (2 * (16 * p + g)) = (aFc b p g).1 1 := x3
        have z1 : τ.1 38 (2 * (16 * p + g) + 1) = (aFk b p g).1 0 := z1
        have z3 : τ.1 37 (2 * (16 * p + g) + 1) = (aFk b p g).1 1 := z3
        refine WP_eq fileOf_n ?_
        unfold m_file_b113 m_file_b139 m_file_b163 m_file_b179 m_file_b197
        rw [i_s]
        refine WP_if Iff.rfl (fun c1 => ?_) (fun c1 => ?_)
        · rw [if_pos c1]
          refine WP_ld rfl 224 (by decide +kernel) (by omega) ?_
          rw [x1]
          refine WP_if c0_eq (fun k => ?_) (fun k => ?_)
          · refine WP_some ⟨hτ, ?_⟩
            rw [y2, y3 k]
            rfl
          · refine WP_ld rfl 224 (by decide +kernel) (by omega) ?_
            exact WP_some ⟨hτ, x3⟩
        rw [if_neg c1]
        refine WP_if Iff.rfl (fun c1 => ?_) (fun c1 => ?_)
        · rw [if_pos c1]
          refine WP_ld rfl 224 (by decide +kernel) (by omega) ?_
          rw [z1]
          refine WP_if c0_eq (fun k => ?_) (fun k => ?_)
          · refine WP_some ⟨hτ, ?_⟩
            rw [w2, w3 k]
            rfl
          · refine WP_ld rfl 224 (by decide +kernel) (by omega) ?_
            exact WP_some ⟨hτ, z3⟩
        rw [if_neg c1]
        refine WP_if Iff.rfl (fun c1 => ?_) (fun c1 => ?_)
        · rw [if_pos c1]
          refine WP_ld rfl 224 (by decide +kernel) (by omega) ?_
          rw [x1]
          refine WP_if c0_eq (fun k => ?_) (fun k => ?_)
          · refine WP_some ⟨hτ, ?_⟩
            have l1 := lc.1
            have l2 := lc.2
            rw [y2, y3 k] at l2
            rw [Int32.le_iff_toInt_le] at l1 l2
            refine (Int32.toInt_inj.mp ?_).symm
            rw [i_0] at l1 ⊢
            have : (Int32.ofNat 0).toInt = 0 := by decide
            omega
          · rw [if_neg (by decide), i_half (by omega)]
            refine WP_ld rfl 112 (by decide +kernel) (by omega) ?_
            refine WP_some ⟨hτ, ?_⟩
            exact hτ.1.1 43 (by decide) _ (by rw [show rlen 43 = 112 by decide +kernel]; omega)
        rw [if_neg c1]
        refine WP_if Iff.rfl (fun c1 => ?_) (fun c1 => ?_)
        · rw [if_pos c1]
          refine WP_ld rfl 224 (by decide +kernel) (by omega) ?_
          rw [x1]
          rcases x2 with k | k
          · rw [k]
            exact WP_if c0_eq (fun _ => WP_some ⟨hτ, rfl⟩) (fun y => absurd rfl y)
          · rw [k]
            exact WP_if c0_eq (fun y => absurd (show (1 : Int32) = 0 from y) (by decide)) (fun _ => WP_some ⟨hτ, rfl⟩)
        rw [if_neg c1]
        refine WP_ld rfl 224 (by decide +kernel) (by omega) ?_
        rw [z1]
        rcases z2 with k | k
        · rw [k]
          exact WP_if c0_eq (fun _ => WP_some ⟨hτ, rfl⟩) (fun y => absurd rfl y)
        · rw [k]
          exact WP_if c0_eq (fun y => absurd (show (1 : Int32) = 0 from y) (by decide)) (fun _ => WP_some ⟨hτ, rfl⟩)
      · have q3 := b_false q3
        rw [q1, q2, q3]
        simp only [Bool.not_true, Bool.not_false, Bool.or_true, if_true]
        refine WP_in (lo' := 0) (hi' := 6) (by decide) (by decide) (fun _ => ?_) (fun y => by rw [q1] at y; exact absurd y (by decide))
        refine WP_if c0_eq (fun y => absurd (show (1 : Int32) = 0 from y) (by decide)) (fun _ => ?_)
        refine WP_in (lo' := 0) (hi' := 15) (by decide) (by decide) (fun _ => ?_) (fun y => by rw [q2] at y; exact absurd y (by decide))
        refine WP_if c0_eq (fun y => absurd (show (1 : Int32) = 0 from y) (by decide)) (fun _ => ?_)
        refine WP_in (lo' := 0) (hi' := 4) (by decide) (by decide) (fun y => by rw [q3] at y; exact absurd y (by decide)) (fun _ => ?_)
        refine WP_if c0_eq (fun _ => ?_) (fun y => absurd rfl y)
        exact thr 0
    · have q2 := b_false q2
      rw [q1, q2]
      simp only [Bool.not_true, Bool.not_false, Bool.or_true, Bool.true_or, if_true]
      refine WP_in (lo' := 0) (hi' := 6) (by decide) (by decide) (fun _ => ?_) (fun y => by rw [q1] at y; exact absurd y (by decide))
      refine WP_if c0_eq (fun y => absurd (show (1 : Int32) = 0 from y) (by decide)) (fun _ => ?_)
      refine WP_in (lo' := 0) (hi' := 15) (by decide) (by decide) (fun y => by rw [q2] at y; exact absurd y (by decide)) (fun _ => ?_)
      refine WP_if c0_eq (fun _ => ?_) (fun y => absurd rfl y)
      exact thr 0
  · have q1 := b_false q1
    rw [q1]
    simp only [Bool.not_false, Bool.true_or, if_true]
    refine WP_in (lo' := 0) (hi' := 6) (by decide) (by decide) (fun y => by rw [q1] at y; exact absurd y (by decide)) (fun _ => ?_)
    refine WP_if c0_eq (fun _ => ?_) (fun y => absurd rfl y)
    exact thr 0
theorem F_client {σ : RS} {a : AA} {u : AU} {c what : Int32} (h : RM σ a u) (hbit : ∀ c, c < 8 → aS a 124 c = 0 ∨ aS a 124 c = 1) : FW (m_client σ c what) (A_client (aI a 0 0 0) c what) u := by
  unfold A_client m_client m_client_b0 m_client_b29
  have thr : ∀ v, FW (m_client_b30 σ 1 c what) (aI a 0 0 0, 1, v) u := by
    intro v
    unfold m_client_b30
    refine FW_no (by decide) (WP_th h (fun τ hτ e0 => ?_))
    rw [e0]
    exact WP_if c0_le (fun y => absurd y (by decide)) (fun _ => WP_some hτ)
  by_cases q1 : aInR c 0 7 = true
  · by_cases q3 : aInR what 0 5 = true
    · rw [q1, q3]
      simp only [Bool.not_true, Bool.or_self, Bool.false_eq_true, if_false]
      refine FW_ok rfl (WP_in (lo' := 0) (hi' := 7) (by decide) (by decide) (fun _ => ?_) (fun y => by rw [q1] at y; exact absurd y (by decide)))
      refine WP_if c0_eq (fun y => absurd (show (1 : Int32) = 0 from y) (by decide)) (fun _ => ?_)
      refine WP_in (lo' := 0) (hi' := 5) (by decide) (by decide) (fun _ => ?_) (fun y => by rw [q3] at y; exact absurd y (by decide))
      refine WP_if c0_eq (fun y => absurd (show (1 : Int32) = 0 from y) (by decide)) (fun _ => ?_)
      unfold m_client_b30 m_client_b125
      refine WP_th h (fun τ hτ e0 => ?_)
      rw [e0]
      refine WP_if c0_le (fun _ => ?_) (fun y => absurd (by decide) y)
      obtain ⟨p, e1, hp⟩ := in_nat2 (hi := 7) (by omega) q1
      have hp8 : p < 8 := by omega
      rw [e1, i_cl (by omega)]
      have b124 : aS (aI a 0 0 0) 124 p = 0 ∨ aS (aI a 0 0 0) 124 p = 1 := hbit p hp8
      generalize aI a 0 0 0 = b at hτ b124
      refine WP_if c0_ne (fun w0 => ?_) (fun w0 => ?_)
      · rw [if_neg w0]
        refine WP_if c2_ne (fun w1 => ?_) (fun w1 => ?_)
        · rw [if_neg w1]
          refine WP_if c2_ne (fun w2 => ?_) (fun w2 => ?_)
          · rw [if_neg w2]
            refine WP_if c2_ne (fun w3 => ?_) (fun w3 => ?_)
            · rw [if_neg w3]
              refine WP_if c2_ne (fun w4 => ?_) (fun w4 => ?_)
              · rw [if_neg w4]
                exact WP_r8 hτ (by decide) hp8 (WP_some ⟨hτ, rfl⟩)
              · rw [if_pos (Classical.not_not.mp w4)]
                exact WP_r8 hτ (by decide) hp8 (WP_some ⟨hτ, rfl⟩)
            · rw [if_pos (Classical.not_not.mp w3)]
              exact WP_r8 hτ (by decide) hp8 (WP_some ⟨hτ, rfl⟩)
          · rw [if_pos (Classical.not_not.mp w2)]
            exact WP_r8 hτ (by decide) hp8 (WP_some ⟨hτ, rfl⟩)
        · rw [if_pos (Classical.not_not.mp w1)]
          exact WP_r8 hτ (by decide) hp8 (WP_some ⟨hτ, rfl⟩)
      · rw [if_pos (Classical.not_not.mp w0)]
        refine WP_r8 hτ (by decide) hp8 ?_
        rcases b124 with z | z
        · rw [z]
          exact WP_if c0_eq (fun _ => WP_some ⟨hτ, rfl⟩) (fun y => absurd rfl y)
        · rw [z]
          exact WP_if c0_eq (fun y => absurd (show (1 : Int32) = 0 from y) (by decide)) (fun _ => WP_some ⟨hτ, rfl⟩)
    · have q3 := b_false q3
      rw [q1, q3]
      simp only [Bool.not_true, Bool.not_false, Bool.or_true, if_true]
      refine WP_in (lo' := 0) (hi' := 7) (by decide) (by decide) (fun _ => ?_) (fun y => by rw [q1] at y; exact absurd y (by decide))
      refine WP_if c0_eq (fun y => absurd (show (1 : Int32) = 0 from y) (by decide)) (fun _ => ?_)
      refine WP_in (lo' := 0) (hi' := 5) (by decide) (by decide) (fun y => by rw [q3] at y; exact absurd y (by decide)) (fun _ => ?_)
      refine WP_if c0_eq (fun _ => ?_) (fun y => absurd rfl y)
      exact thr 0
  · have q1 := b_false q1
    rw [q1]
    simp only [Bool.not_false, Bool.true_or, if_true]
    refine WP_in (lo' := 0) (hi' := 7) (by decide) (by decide) (fun y => by rw [q1] at y; exact absurd y (by decide)) (fun _ => ?_)
    refine WP_if c0_eq (fun _ => ?_) (fun y => absurd rfl y)
    exact thr 0
/-- a number of a row: in it or not -/
theorem idx_n {i : Int32} {n : Nat} (hn : n < 2147483648) : (aInR i 0 (Int32.ofNat n - 1) = true ↔ ∃ k, i = Int32.ofNat k ∧ k < n) := by
  have en : (Int32.ofNat n - 1).toInt = (n : Int) - 1 := by
    rw [i_subI (by rw [Int32.toInt_ofNat_of_lt hn, i_1]; omega) (by rw [Int32.toInt_ofNat_of_lt hn, i_1]; omega), Int32.toInt_ofNat_of_lt hn, i_1]
  constructor
  · intro h
    obtain ⟨h1, h2⟩ := in_bd h
    rw [Int32.le_iff_toInt_le, en] at h2
    have h3 := i_nat h1
    exact ⟨i.toNatClampNeg, i_of h1, by omega⟩
  · rintro ⟨k, rfl, hk⟩
    unfold aInR
    rw [Bool.and_eq_true_iff]
    refine ⟨decide_eq_true ?_, decide_eq_true ?_⟩
    · rw [Int32.le_iff_toInt_le, Int32.toInt_ofNat_of_lt (by omega), i_0]
      omega
    · rw [Int32.le_iff_toInt_le, en, Int32.toInt_ofNat_of_lt (by omega)]
      omega
theorem idx_get {α : Type} {L : List α} {i : Int32} {n : Nat} (e : n = L.length) (hn : n < 2147483648) : (aInR i 0 (Int32.ofNat n - 1) = true → ∃ k x, i = Int32.ofNat k ∧ k < n ∧ ¬ i < 0 ∧ i.toNatClampNeg = k ∧ L[k]? = some x) ∧ (aInR i 0 (Int32.ofNat n - 1) = false → i < 0 ∨ L[i.toNatClampNeg]? = none) := by
  subst e
  constructor
  · intro h
    obtain ⟨k, k1, k2⟩ := (idx_n hn).mp h
    refine ⟨k, L[k], k1, k2, ?_, by rw [k1, i_cl (by omega)], List.getElem?_eq_getElem k2⟩
    rw [k1]
    exact i_nn (by omega)
  · intro h
    by_cases q : i < 0
    · exact Or.inl q
    · right
      have h0 : 0 ≤ i := Int32.not_lt.mp q
      refine List.getElem?_eq_none (Nat.le_of_not_lt (fun y => ?_))
      rw [(idx_n hn).mpr ⟨i.toNatClampNeg, i_of h0, y⟩] at h
      exact absurd h (by decide)
theorem F_history {σ : RS} {a : AA} {u : AU} {i what : Int32} (h : RM σ a u) : FW (m_history σ i what) (A_history (aI a 0 0 0) i what) u := by
  obtain ⟨k1, k2, k3, k4⟩ := h.2.2.2.2.2.2.2.2.2.2.2.2.2.1
  obtain ⟨g1, g2⟩ := idx_get (L := aAk a) (i := i) rfl (by omega)
  unfold A_history m_history m_history_b0 m_history_b33
  rw [show aAk (aI a 0 0 0) = aAk a from rfl]
  have thr : ∀ v, FW (m_history_b34 σ 1 i what) (aI a 0 0 0, 1, v) u := by
    intro v
    unfold m_history_b34 m_history_b59
    refine FW_no (by decide) (WP_th h (fun τ hτ e0 => ?_))
    rw [e0]
    exact WP_if c0_le (fun y => absurd y (by decide)) (fun _ => WP_some hτ)
  rw [k1]
  by_cases q1 : aInR i 0 (Int32.ofNat (aAk a).length - 1) = true
  · obtain ⟨k, x, e1, e2, e3, e4, e5⟩ := g1 q1
    by_cases q3 : aInR what 0 5 = true
    · rw [if_neg (fun y => y.elim e3 (fun z => by rw [q3] at z; exact absurd z (by decide))), e4, e5]
      dsimp only
      refine FW_ok rfl (WP_in (lo' := 0) (hi' := Int32.ofNat (aAk a).length - 1) (by decide) rfl (fun _ => ?_) (fun y => by rw [q1] at y; exact absurd y (by decide)))
      refine WP_if c0_eq (fun y => absurd (show (1 : Int32) = 0 from y) (by decide)) (fun _ => ?_)
      refine WP_in (lo' := 0) (hi' := 5) (by decide) (by decide) (fun _ => ?_) (fun y => by rw [q3] at y; exact absurd y (by decide))
      refine WP_if c0_eq (fun y => absurd (show (1 : Int32) = 0 from y) (by decide)) (fun _ => ?_)
      unfold m_history_b34 m_history_b59
      refine WP_th h (fun τ hτ e0 => ?_)
      rw [e0]
      refine WP_if c0_le (fun _ => ?_) (fun y => absurd (by decide) y)
      obtain ⟨w, f1, f2⟩ := in_nat2 (hi := 5) (by omega) q3
      rw [e1, f1, show (6 : Int32) * Int32.ofNat k + Int32.ofNat w = Int32.ofNat (6 * k + w) from i_ma (c := 6), i_cl (by omega)]
      refine WP_ld rfl 6144 (by decide +kernel) (by omega) ?_
      refine WP_some ⟨hτ, ?_⟩
      have := (hτ.2.2.2.2.2.2.2.2.2.2.2.2.2.1).2.2.2 k e2 w (by omega)
      rw [this]
      show ((aAk a).getD k (fun _ => 0, [])).1 w = x.1 w
      rw [List.getD_eq_getElem?_getD, e5]
      rfl
    · have q3 := b_false q3
      rw [if_pos (Or.inr q3)]
      refine WP_in (lo' := 0) (hi' := Int32.ofNat (aAk a).length - 1) (by decide) rfl (fun _ => ?_) (fun y => by rw [q1] at y; exact absurd y (by decide))
      refine WP_if c0_eq (fun y => absurd (show (1 : Int32) = 0 from y) (by decide)) (fun _ => ?_)
      refine WP_in (lo' := 0) (hi' := 5) (by decide) (by decide) (fun y => by rw [q3] at y; exact absurd y (by decide)) (fun _ => ?_)
      refine WP_if c0_eq (fun _ => ?_) (fun y => absurd rfl y)
      exact thr 0
  · have q1 := b_false q1
    have go : FW ((m_in i.toInt64 0 (Int32.ofNat (aAk a).length - 1).toInt64).bind fun p6 =>
      if xc0 .eq p6 = true then m_history_b34 σ 1 i what
      else
        (m_in what.toInt64 0 5).bind fun p9 =>
          if xc0 .eq p9 = true then m_history_b34 σ 1 i what else m_history_b34 σ 0 i what) (aI a 0 0 0, 1, 0) u := by
      refine WP_in (lo' := 0) (hi' := Int32.ofNat (aAk a).length - 1) (by decide) rfl (fun y => by rw [q1] at y; exact absurd y (by decide)) (fun _ => ?_)
      refine WP_if c0_eq (fun _ => ?_) (fun y => absurd rfl y)
      exact thr 0
    by_cases q : i < 0 ∨ aInR what 0 5 = false
    · rw [if_pos q]
      exact go
    · rw [if_neg q]
      rcases g2 q1 with z | z
      · exact absurd (Or.inl z) q
      · rw [z]
        exact go
theorem F_byteAt {σ : RS} {a : AA} {u : AU} {i : Int32} (h : RM σ a u) : FW (m_byteAt σ i) (A_byteAt (aI a 0 0 0) i) u := by
  obtain ⟨k1, k2, k3⟩ := h.2.2.2.2.2.2.2.2.2.2.2.2.2.2.2.2.1
  obtain ⟨g1, g2⟩ := idx_get (L := aRe a) (i := i) rfl (by omega)
  unfold A_byteAt m_byteAt m_byteAt_b0
  rw [show aRe (aI a 0 0 0) = aRe a from rfl]
  have thr : ∀ v, FW (m_byteAt_b22 σ 1 i) (aI a 0 0 0, 1, v) u := by
    intro v
    unfold m_byteAt_b22 m_byteAt_b46
    refine FW_no (by decide) (WP_th h (fun τ hτ e0 => ?_))
    rw [e0]
    exact WP_if c0_le (fun y => absurd y (by decide)) (fun _ => WP_some hτ)
  rw [k1]
  by_cases q1 : aInR i 0 (Int32.ofNat (aRe a).length - 1) = true
  · obtain ⟨k, x, e1, e2, e3, e4, e5⟩ := g1 q1
    rw [if_neg e3, e4, e5]
    dsimp only
    refine FW_ok rfl (WP_in (lo' := 0) (hi' := Int32.ofNat (aRe a).length - 1) (by decide) rfl (fun _ => ?_) (fun y => by rw [q1] at y; exact absurd y (by decide)))
    refine WP_if c0_eq (fun y => absurd (show (1 : Int32) = 0 from y) (by decide)) (fun _ => ?_)
    unfold m_byteAt_b22 m_byteAt_b46
    refine WP_th h (fun τ hτ e0 => ?_)
    rw [e0]
    refine WP_if c0_le (fun _ => ?_) (fun y => absurd (by decide) y)
    rw [e1]
    refine WP_ld rfl 160 (by decide +kernel) (by omega) ?_
    refine WP_some ⟨hτ, ?_⟩
    have := (hτ.2.2.2.2.2.2.2.2.2.2.2.2.2.2.2.2.1).2.2 k e2
    rw [this]
    show (aRe a).getD k 0 &&& 255 = x &&& 255
    rw [List.getD_eq_getElem?_getD, e5]
    rfl
  · have q1 := b_false q1
    have go : FW ((m_in i.toInt64 0 (Int32.ofNat (aRe a).length - 1).toInt64).bind fun p6 =>
      if xc0 .eq p6 = true then m_byteAt_b22 σ 1 i else m_byteAt_b22 σ 0 i) (aI a 0 0 0, 1, 0) u := by
      refine WP_in (lo' := 0) (hi' := Int32.ofNat (aRe a).length - 1) (by decide) rfl (fun y => by rw [q1] at y; exact absurd y (by decide)) (fun _ => ?_)
      refine WP_if c0_eq (fun _ => ?_) (fun y => absurd rfl y)
      exact thr 0
    by_cases q : i < 0
    · rw [if_pos q]
      exact go
    · rw [if_neg q]
      rcases g2 q1 with z | z
      · exact absurd z q
      · rw [z]
        exact go
