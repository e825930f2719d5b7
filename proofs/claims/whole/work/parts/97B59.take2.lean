theorem take_k {p : Int32} {i : Nat} : p + 1 + Int32.ofNat i + 1 = p + 1 + Int32.ofNat (i + 1) := by
  rw [Int32.add_assoc _ (Int32.ofNat i), i_s]
theorem drop_c {es : List AE} {i : Nat} (h : i < es.length) : es.drop i = es.getD i aE0 :: es.drop (i + 1) := by
  rw [List.drop_eq_getElem_cons h, List.getD_eq_getElem?_getD, List.getElem?_eq_getElem h]
  rfl
/-- told entries that are agreed upon already: other ones end it -/
theorem take_clash {F : Nat} {τ : RS} {a : AA} {u : AU} {s : Nat} {f turn p : Int32} {es : List AE} {Q : RS → Prop} (h : RM τ a u) (hs : s < 7) (hmk : u.2 (14 + s)) (h6 : es.length ≤ 6) (hE : ∀ i, i < es.length → τ.1 13 (2118 + i) = (es.getD i aE0).1)
    (yes : aClash a s (p + 1) es = true → Q τ) (no : aClash a s (p + 1) es = false → WP (m_take_b269 F F τ (Int32.ofNat s) f turn p (Int32.ofNat es.length) (Int32.ofNat 0)) Q) :
    ∀ n i, es.length + 1 ≤ i + n → i ≤ es.length → aClash a s (p + 1) es = aClash a s (p + 1 + Int32.ofNat i) (es.drop i) → WP (m_take_b200 F n τ (Int32.ofNat s) f turn p (Int32.ofNat es.length) (Int32.ofNat i)) Q := by
  have mk := h.2.2.2.2.2.2.2.2.2.2.2.2.2.2.2.2.2.2.2.2.2.2.1 s hs hmk
  intro n
  induction n with
  | zero => intro i h1 h2; omega
  | succ n ih =>
    intro i h1 h2 h3
    unfold m_take_b200
    refine WP_if (i_gei (by omega) (by omega)) (fun q => ?_) (fun q => ?_)
    · have : i = es.length := by omega
      subst this
      rw [List.drop_length] at h3
      exact no h3
    · have hi : i < es.length := by omega
      rw [drop_c hi] at h3
      have nx : (decide (aBase a s ≤ p + 1 + Int32.ofNat i) && decide (p + 1 + Int32.ofNat i ≤ aS a 75 s) && !decide (aTermAt a s (p + 1 + Int32.ofNat i) = (es.getD i aE0).1)) = false → WP (m_take_b260 F (m_take_b200 F n) τ (Int32.ofNat s) f turn p (Int32.ofNat es.length) (Int32.ofNat i)) Q := by
        intro e
        have h3 : aClash a s (p + 1) es = ((decide (aBase a s ≤ p + 1 + Int32.ofNat i) && decide (p + 1 + Int32.ofNat i ≤ aS a 75 s) && !decide (aTermAt a s (p + 1 + Int32.ofNat i) = (es.getD i aE0).1)) || aClash a s (p + 1 + Int32.ofNat i + 1) (es.drop (i + 1))) := h3
        rw [e, Bool.false_or, take_k] at h3
        unfold m_take_b260
        rw [i_s]
        exact ih (i + 1) (by omega) (by omega) h3
      refine WP_r7 h (by decide) hs ?_
      refine WP_if c2_lt (fun q1 => ?_) (fun q1 => ?_)
      · refine nx ?_
        have : ¬ aBase a s ≤ p + 1 + Int32.ofNat i := Int32.not_le.mpr q1
        rw [decide_eq_false this, Bool.false_and, Bool.false_and]
      · have q1 : aBase a s ≤ p + 1 + Int32.ofNat i := Int32.not_lt.mp q1
        refine WP_r7 h (by decide) hs ?_
        refine WP_if c2_gt (fun q2 => ?_) (fun q2 => ?_)
        · refine nx ?_
          rw [decide_eq_false (Int32.not_le.mpr q2), Bool.and_false, Bool.false_and]
        · have q2 : p + 1 + Int32.ofNat i ≤ aS a 75 s := Int32.not_lt.mp q2
          have hle : p + 1 + Int32.ofNat i ≤ aLast a s := Int32.le_trans q2 mk.2.2.1
          have hok : p + 1 + Int32.ofNat i = aBase a s ∨ aHas a s (p + 1 + Int32.ofNat i) = true := by
            by_cases z : p + 1 + Int32.ofNat i = aBase a s
            · exact Or.inl z
            · right
              refine aHas_of ?_ hle
              rw [Int32.lt_iff_toInt_lt]
              rw [Int32.le_iff_toInt_le] at q1
              have : (p + 1 + Int32.ofNat i).toInt ≠ (aBase a s).toInt := fun y => z (Int32.toInt_inj.mp y)
              omega
          refine WP_eq (M_termAt h hs hok) ?_
          refine WP_ld (n := 2118 + i) (by rw [show (2118 : Int32) = Int32.ofNat 2118 from rfl, i_ad]) 2124 (by decide +kernel) (by omega) ?_
          rw [hE i hi]
          refine WP_if c2_eq (fun q3 => ?_) (fun q3 => ?_)
          · refine nx ?_
            rw [decide_eq_true q3, Bool.not_true, Bool.and_false]
          · refine WP_some (yes ?_)
            rw [h3]
            show ((decide (aBase a s ≤ p + 1 + Int32.ofNat i) && decide (p + 1 + Int32.ofNat i ≤ aS a 75 s) && !decide (aTermAt a s (p + 1 + Int32.ofNat i) = (es.getD i aE0).1)) || _) = true
            rw [decide_eq_true q1, decide_eq_true q2, decide_eq_false q3]
            rfl
/-- which of the told entries are new -/
theorem take_news {F : Nat} {τ : RS} {a : AA} {u : AU} {s : Nat} {f turn p : Int32} {es : List AE} {Q : RS → Prop} (h : RM τ a u) (hs : s < 7) (h6 : es.length ≤ 6) (hE : ∀ i, i < es.length → τ.1 13 (2118 + i) = (es.getD i aE0).1)
    (go : ∀ i, i ≤ es.length → aNews a s (p + 1) es = (p + 1 + Int32.ofNat i, es.drop i) → WP (m_take_b340 F τ (Int32.ofNat s) f turn p (Int32.ofNat es.length) (Int32.ofNat i)) Q) :
    ∀ n i, es.length + 1 ≤ i + n → i ≤ es.length → aNews a s (p + 1) es = aNews a s (p + 1 + Int32.ofNat i) (es.drop i) → WP (m_take_b269 F n τ (Int32.ofNat s) f turn p (Int32.ofNat es.length) (Int32.ofNat i)) Q := by
  intro n
  induction n with
  | zero => intro i h1 h2; omega
  | succ n ih =>
    intro i h1 h2 h3
    unfold m_take_b269
    refine WP_if (i_gei (by omega) (by omega)) (fun q => ?_) (fun q => ?_)
    · have : i = es.length := by omega
      subst this
      refine go _ (Nat.le_refl _) ?_
      rw [h3, List.drop_length]
      rfl
    · have hi : i < es.length := by omega
      rw [drop_c hi] at h3
      have h3 : aNews a s (p + 1) es = if p + 1 + Int32.ofNat i ≤ aBase a s ∨ (p + 1 + Int32.ofNat i ≤ aLast a s ∧ aTermAt a s (p + 1 + Int32.ofNat i) = (es.getD i aE0).1) then aNews a s (p + 1 + Int32.ofNat i + 1) (es.drop (i + 1)) else (p + 1 + Int32.ofNat i, es.getD i aE0 :: es.drop (i + 1)) := h3
      have nx : (p + 1 + Int32.ofNat i ≤ aBase a s ∨ (p + 1 + Int32.ofNat i ≤ aLast a s ∧ aTermAt a s (p + 1 + Int32.ofNat i) = (es.getD i aE0).1)) → WP (m_take_b334 F (m_take_b269 F n) τ (Int32.ofNat s) f turn p (Int32.ofNat es.length) (Int32.ofNat i)) Q := by
        intro e
        rw [if_pos e, take_k] at h3
        unfold m_take_b334
        rw [i_s]
        exact ih (i + 1) (by omega) (by omega) h3
      have st : ¬ (p + 1 + Int32.ofNat i ≤ aBase a s ∨ (p + 1 + Int32.ofNat i ≤ aLast a s ∧ aTermAt a s (p + 1 + Int32.ofNat i) = (es.getD i aE0).1)) → WP (m_take_b340 F τ (Int32.ofNat s) f turn p (Int32.ofNat es.length) (Int32.ofNat i)) Q := by
        intro e
        rw [if_neg e, ← drop_c hi] at h3
        exact go i (by omega) h3
      refine WP_r7 h (by decide) hs ?_
      refine WP_if c2_le (fun q1 => nx (Or.inl q1)) (fun q1 => ?_)
      refine WP_r7 h (by decide) hs ?_
      refine WP_if c2_gt (fun q2 => ?_) (fun q2 => ?_)
      · exact st (fun y => y.elim q1 (fun z => Int32.not_le.mpr q2 z.1))
      · have q2 : p + 1 + Int32.ofNat i ≤ aLast a s := Int32.not_lt.mp q2
        refine WP_eq (M_termAt h hs (Or.inr (aHas_of (Int32.not_le.mp q1) q2))) ?_
        refine WP_ld (n := 2118 + i) (by rw [show (2118 : Int32) = Int32.ofNat 2118 from rfl, i_ad]) 2124 (by decide +kernel) (by omega) ?_
        rw [hE i hi]
        refine WP_if c2_ne (fun q3 => ?_) (fun q3 => ?_)
        · exact st (fun y => y.elim q1 (fun z => q3 z.2))
        · exact nx (Or.inr ⟨q2, Classical.not_not.mp q3⟩)
