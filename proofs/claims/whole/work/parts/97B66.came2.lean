theorem from_p {l : AL} (hf : aInR (l.1 2) 0 6 = true ∨ aInR (l.1 2) 8 15 = true) : ∃ p, p < 16 ∧ l.1 2 = Int32.ofNat p ∧ (l.1 2).toNatClampNeg = p := by
  have key : (0 : Int32) ≤ l.1 2 ∧ l.1 2 ≤ 15 := by
    rcases hf with z | z
    · unfold aInR at z
      have z1 := of_decide_eq_true (Bool.and_eq_true_iff.mp z).1
      have z2 := of_decide_eq_true (Bool.and_eq_true_iff.mp z).2
      exact ⟨z1, Int32.le_trans z2 (by decide)⟩
    · unfold aInR at z
      have z1 := of_decide_eq_true (Bool.and_eq_true_iff.mp z).1
      have z2 := of_decide_eq_true (Bool.and_eq_true_iff.mp z).2
      exact ⟨Int32.le_trans (by decide) z1, z2⟩
  obtain ⟨h1, h2⟩ := key
  rw [Int32.le_iff_toInt_le] at h1 h2
  rw [i_0] at h1
  have h15 : (15 : Int32).toInt = 15 := by decide
  rw [h15] at h2
  obtain ⟨n, hn⟩ : ∃ n : Nat, (l.1 2).toInt = n := ⟨(l.1 2).toInt.toNat, by omega⟩
  have e : l.1 2 = Int32.ofNat n := Int32.toInt_inj.mp (by rw [hn, Int32.toInt_ofNat_of_lt (by omega)])
  exact ⟨n, by omega, e, by rw [e]; exact i_cl (by omega)⟩
def came84 (a1 : AA) (s : Nat) (l : AL) : AA :=
  let k := l.1 4
  let t := l.1 5
  if k = 1 then A_preask a1 s l
  else if k = 2 then
    if l.1 6 = 1 ∧ t = aS a1 53 s + 1 ∧ aS a1 73 s = 1 then
      let a2 := aI a1 79 s (aS a1 79 s ||| (1 <<< l.1 2))
      if aMaj (aS a2 65 s) (aS a2 79 s) then A_campaign a2 s else a2
    else a1
  else if k = 3 then A_ask a1 s l
  else if k = 4 then
    if l.1 6 = 1 ∧ t = aS a1 53 s ∧ aS a1 73 s = 2 then
      let a2 := aI a1 79 s (aS a1 79 s ||| (1 <<< l.1 2))
      if aMaj (aS a2 65 s) (aS a2 79 s) then A_lead a2 s else a2
    else a1
  else if k = 5 ∨ k = 7 then A_led a1 s l
  else if k = 6 ∨ k = 8 then
    if t = aS a1 53 s ∧ aS a1 73 s = 3 ∧ aPeer a1 s (l.1 2).toNatClampNeg then A_heardOf a1 s l else a1
  else if t = aS a1 53 s ∧ aS a1 73 s < 2 ∧ aVoter a1 s s then A_campaign a1 s else a1
theorem A_came_e {a : AA} {s : Nat} {l : AL} : A_came a s l = came84 (if aS a 53 s < l.1 5 ∧ ¬ l.1 4 = 1 ∧ ¬ (l.1 4 = 2 ∧ l.1 6 = 1) then A_stepDown a s (l.1 5) (-1) else a) s l := by
  unfold A_came came84
  with_reducible rfl
theorem M_came84 {F : Nat} {σ : RS} {a : AA} {u : AU} {s : Nat} {l : AL} {x y z : Int32} (hF : 20000 ≤ F) (h : RM σ a u) (hs : s < 7) (hf : aInR (l.1 2) 0 6 = true ∨ aInR (l.1 2) 8 15 = true) (hw : wN a < 2147483647) (hup : aS a 52 s = 1) (hz : u.2 s) (hz7 : u.2 (7 + s)) (hmk : u.2 (14 + s)) (hmx : (aS a 151 s).toInt < 2147483000) (hp : pRoom a s)
    (h13 : l.1 4 = 1 ∨ l.1 4 = 3 → x = l.1 7 ∧ y = l.1 8) (h24 : l.1 4 = 2 ∨ l.1 4 = 4 → x = l.1 6)
    (hled : l.1 4 = 5 ∨ l.1 4 = 7 → WP (m_led F σ (Int32.ofNat s) (l.1 2) (l.1 4) (l.1 5)) (fun τ => RM τ (A_led a s l) u))
    (hheard : l.1 4 = 6 ∨ l.1 4 = 8 → l.1 5 = aS a 53 s → aS a 73 s = 3 → aPeer a s (l.1 2).toNatClampNeg = true → WP (m_heardOf F σ (Int32.ofNat s) (l.1 2) (l.1 4) x y z) (fun τ => RM τ (A_heardOf a s l) u)) : WP (m_came_b84 F σ (Int32.ofNat s) (l.1 2) (l.1 4) (l.1 5) x y z) (fun τ => RM τ (came84 a s l) u) := by
  unfold m_came_b84 came84
  dsimp only
  by_cases k1 : l.1 4 = 1
  · rw [if_pos k1, if_pos k1]
    obtain ⟨rfl, rfl⟩ := h13 (Or.inl k1)
    exact M_preask (by omega) h hs hf
  · rw [if_neg k1, if_neg k1]
    by_cases k2 : l.1 4 = 2
    · rw [if_pos k2, if_pos k2]
      have hx := h24 (Or.inl k2)
      subst hx
      refine WP_if c2_ne (fun q => ?_) (fun q => ?_)
      · rw [if_neg (fun y => q y.1)]
        exact WP_some h
      · have q := Classical.not_not.mp q
        refine WP_r7 h (by decide) hs ?_
        refine WP_if c2_ne (fun q2 => ?_) (fun q2 => ?_)
        · rw [if_neg (fun y => q2 y.2.1)]
          exact WP_some h
        · have q2 := Classical.not_not.mp q2
          refine WP_r7 h (by decide) hs ?_
          refine WP_if c2_ne (fun q3 => ?_) (fun q3 => ?_)
          · rw [if_neg (fun y => q3 y.2.2)]
            exact WP_some h
          · rw [if_pos ⟨q, q2, Classical.not_not.mp q3⟩]
            refine WP_r7 h (by decide) hs ?_
            rw [i_shf (σ := σ) (a := a) (u := u) hf]
            refine WP_w7 h (by decide) (by decide) hs (fun σ1 h1 => ?_)
            have fr : AFr [79] [] a (aI a 79 s (aS a 79 s ||| (1 <<< l.1 2))) := AFr_I
            generalize aI a 79 s (aS a 79 s ||| (1 <<< l.1 2)) = c at h1 fr
            refine WP_r7 h1 (by decide) hs ?_
            refine WP_eq (M_isMajority (by omega) h1 hs) ?_
            cases hm : aMaj (aS c 65 s) (aS c 79 s) with
            | false =>
              rw [if_neg (show ¬ false = true by decide)]
              refine WP_if c0_eq (fun _ => ?_) (fun y => absurd rfl y)
              exact WP_some h1
            | true =>
              rw [if_pos (show true = true from rfl)]
              refine WP_if c0_eq (fun y => absurd (show (1 : Int32) = 0 from y) (by decide)) (fun _ => ?_)
              exact WP_call (M_campaign (by omega) h1 hs (by rw [wN_fr fr (by decide)]; exact hw)) (fun p hp => WP_some hp)
    · rw [if_neg k2, if_neg k2]
      by_cases k3 : l.1 4 = 3
      · rw [if_pos k3, if_pos k3]
        obtain ⟨rfl, rfl⟩ := h13 (Or.inr k3)
        exact WP_call (M_vote (by omega) h hs hf hw) (fun p hp => WP_some hp)
      · rw [if_neg k3, if_neg k3]
        by_cases k4 : l.1 4 = 4
        · rw [if_pos k4, if_pos k4]
          have hx := h24 (Or.inr k4)
          subst hx
          refine WP_if c2_ne (fun q => ?_) (fun q => ?_)
          · rw [if_neg (fun y => q y.1)]
            exact WP_some h
          · have q := Classical.not_not.mp q
            refine WP_r7 h (by decide) hs ?_
            refine WP_if c2_ne (fun q2 => ?_) (fun q2 => ?_)
            · rw [if_neg (fun y => q2 y.2.1)]
              exact WP_some h
            · have q2 := Classical.not_not.mp q2
              refine WP_r7 h (by decide) hs ?_
              refine WP_if c2_ne (fun q3 => ?_) (fun q3 => ?_)
              · rw [if_neg (fun y => q3 y.2.2)]
                exact WP_some h
              · rw [if_pos ⟨q, q2, Classical.not_not.mp q3⟩]
                refine WP_r7 h (by decide) hs ?_
                rw [i_shf (σ := σ) (a := a) (u := u) hf]
                refine WP_w7 h (by decide) (by decide) hs (fun σ1 h1 => ?_)
                have fr : AFr [79] [] a (aI a 79 s (aS a 79 s ||| (1 <<< l.1 2))) := AFr_I
                generalize aI a 79 s (aS a 79 s ||| (1 <<< l.1 2)) = c at h1 fr
                refine WP_r7 h1 (by decide) hs ?_
                refine WP_eq (M_isMajority (by omega) h1 hs) ?_
                cases hm : aMaj (aS c 65 s) (aS c 79 s) with
                | false =>
                  rw [if_neg (show ¬ false = true by decide)]
                  refine WP_if c0_eq (fun _ => ?_) (fun y => absurd rfl y)
                  exact WP_some h1
                | true =>
                  rw [if_pos (show true = true from rfl)]
                  refine WP_if c0_eq (fun y => absurd (show (1 : Int32) = 0 from y) (by decide)) (fun _ => ?_)
                  exact WP_call (M_lead (by omega) h1 hs (by rw [fr.1 52 (by decide)]; exact hup) hz hz7 hmk (pRoom_fr fr (by decide) (by decide) (by decide) hp) (by rw [wN_fr fr (by decide)]; exact hw) (by rw [fr.1 151 (by decide)]; exact hmx)) (fun p hp => WP_some hp)
        · rw [if_neg k4, if_neg k4]
          have b381 : l.1 4 = 5 ∨ l.1 4 = 7 → WP (m_came_b381 F σ (Int32.ofNat s) (l.1 2) (l.1 4) (l.1 5)) (fun τ => RM τ (A_led a s l) u) := by
            intro k
            unfold m_came_b381
            exact WP_call (hled k) (fun p hp => WP_some hp)
          have b393 : l.1 4 = 6 ∨ l.1 4 = 8 → WP (m_came_b393 F σ (Int32.ofNat s) (l.1 2) (l.1 4) (l.1 5) x y z) (fun τ => RM τ (if l.1 5 = aS a 53 s ∧ aS a 73 s = 3 ∧ aPeer a s (l.1 2).toNatClampNeg = true then A_heardOf a s l else a) u) := by
            intro k
            unfold m_came_b393
            refine WP_r7 h (by decide) hs ?_
            refine WP_if c2_ne (fun q => ?_) (fun q => ?_)
            · rw [if_neg (fun y => q y.1)]
              exact WP_some h
            · have q := Classical.not_not.mp q
              refine WP_r7 h (by decide) hs ?_
              refine WP_if c2_ne (fun q2 => ?_) (fun q2 => ?_)
              · rw [if_neg (fun y => q2 y.2.1)]
                exact WP_some h
              · have q2 := Classical.not_not.mp q2
                have hh := hheard k q q2
                obtain ⟨p, hp16, e1, e2⟩ := from_p hf
                have hpe : m_isPeer σ (Int32.ofNat s) (l.1 2) = some (aB (aPeer a s (l.1 2).toNatClampNeg), σ) := by
                  rw [e2, e1]
                  exact M_isPeer h hs (by omega)
                refine WP_eq hpe ?_
                cases hb : aPeer a s (l.1 2).toNatClampNeg with
                | false =>
                  rw [if_neg (show ¬ (l.1 5 = aS a 53 s ∧ aS a 73 s = 3 ∧ false = true) from fun y => absurd y.2.2 (by decide))]
                  refine WP_if c0_eq (fun _ => ?_) (fun y => absurd rfl y)
                  exact WP_some h
                | true =>
                  rw [if_pos (show l.1 5 = aS a 53 s ∧ aS a 73 s = 3 ∧ true = true from ⟨q, q2, rfl⟩)]
                  refine WP_if c0_eq (fun y => absurd (show (1 : Int32) = 0 from y) (by decide)) (fun _ => ?_)
                  exact WP_call (hh hb) (fun p hp => WP_some hp)
          by_cases k5 : l.1 4 = 5
          · rw [if_pos k5, if_pos (Or.inl k5)]
            exact b381 (Or.inl k5)
          · rw [if_neg k5]
            by_cases k6 : l.1 4 = 6
            · rw [if_pos k6, if_neg (show ¬ (l.1 4 = 5 ∨ l.1 4 = 7) by rw [k6]; decide), if_pos (Or.inl k6)]
              exact b393 (Or.inl k6)
            · rw [if_neg k6]
              by_cases k7 : l.1 4 = 7
              · rw [if_pos k7, if_pos (Or.inr k7)]
                exact b381 (Or.inr k7)
              · rw [if_neg k7, if_neg (show ¬ (l.1 4 = 5 ∨ l.1 4 = 7) from fun y => y.elim k5 k7)]
                by_cases k8 : l.1 4 = 8
                · rw [if_pos k8, if_pos (Or.inr k8)]
                  exact b393 (Or.inr k8)
                · rw [if_neg k8, if_neg (show ¬ (l.1 4 = 6 ∨ l.1 4 = 8) from fun y => y.elim k6 k8)]
                  refine WP_r7 h (by decide) hs ?_
                  refine WP_if c2_ne (fun q => ?_) (fun q => ?_)
                  · rw [if_neg (fun y => q y.1)]
                    exact WP_some h
                  · have q := Classical.not_not.mp q
                    refine WP_r7 h (by decide) hs ?_
                    refine WP_if c2_ge (fun q2 => ?_) (fun q2 => ?_)
                    · rw [if_neg (fun y => Int32.not_lt.mpr q2 y.2.1)]
                      exact WP_some h
                    · have q2 := Int32.not_le.mp q2
                      refine WP_eq (M_isVoter h hs (by omega)) ?_
                      cases hb : aVoter a s s with
                      | false =>
                        rw [if_neg (show ¬ (l.1 5 = aS a 53 s ∧ aS a 73 s < 2 ∧ false = true) from fun y => absurd y.2.2 (by decide))]
                        refine WP_if c0_eq (fun _ => ?_) (fun y => absurd rfl y)
                        exact WP_some h
                      | true =>
                        rw [if_pos (show l.1 5 = aS a 53 s ∧ aS a 73 s < 2 ∧ true = true from ⟨q, q2, rfl⟩)]
                        refine WP_if c0_eq (fun y => absurd (show (1 : Int32) = 0 from y) (by decide)) (fun _ => ?_)
                        exact WP_call (M_campaign (by omega) h hs hw) (fun p hp => WP_some hp)
