/-! what a majority holds -/
theorem aCommon_le {c L : Int32} {x : Nat → Int32} (hL : -2147483647 ≤ L.toInt) : ∀ n, (∀ p, p < n → x p ≤ L) → aCommon c x n ≤ L := by
  intro n
  induction n with
  | zero =>
    intro _
    refine Int32.le_iff_toInt_le.mpr ?_
    show (-2147483647 : Int32).toInt ≤ _
    rw [show (-2147483647 : Int32).toInt = -2147483647 by decide]
    exact hL
  | succ n ih =>
    intro h
    show (if aCommon c x n < x n ∧ aMaj c (aReach x (x n) 7) then x n else aCommon c x n) ≤ L
    split
    · exact h n (by omega)
    · exact ih (fun p hp => h p (by omega))
theorem AFr_moveBase {a : AA} {s : Nat} {n t c : Int32} : AFr [55, 57, 58, 56, 77] [2] a (aMoveBase a s n t c) := by
  unfold aMoveBase
  dsimp only
  exact AFr_w (AFr_t (AFr_t (AFr_t (AFr_t (AFr_t AFr_lg AFr_I) AFr_I) AFr_I) AFr_I) AFr_I) (by decide) (by decide)
theorem AFr_compact {a : AA} {s : Nat} : AFr [55, 57, 58, 56, 77, 67, 43, 47, 64, 65, 2, 31, 32, 71, 90] [2, 4, 6, 7, 8] a (A_compact a s) := by
  unfold A_compact
  dsimp only
  exact AFr_w (AFr_t (AFr_t (AFr_t (AFr_t (AFr_t (AFr_t (AFr_t AFr_moveBase AFr_I) AFr_sh) AFr_writeShot) AFr_trim) AFr_findCode) AFr_soil) (AFr_off0 7)) (by decide) (by decide)
theorem AFr_applyN {s : Nat} : ∀ (n : Nat) (a : AA), AFr [76, 2, 21, 22] [0, 1, 3, 9] a (aApplyN s n a) := by
  intro n
  induction n with
  | zero => exact fun a => AFr_w AFr_r (by decide) (by decide)
  | succ n ih =>
    intro a
    unfold aApplyN
    split
    · exact AFr_w (AFr_t AFr_apply1 (ih _)) (by decide) (by decide)
    · exact AFr_w AFr_r (by decide) (by decide)
theorem AFr_apply {a : AA} {s : Nat} : AFr [76, 21, 22, 55, 57, 58, 56, 77, 67, 43, 47, 64, 65, 2, 31, 32, 71, 90] [0, 1, 3, 9, 2, 4, 6, 7, 8] a (A_apply a s) := by
  have h := AFr_t (AFr_applyN (s := s) 300 a) (AFr_answerReads (a := aApplyN s 300 a) (s := s))
  unfold A_apply
  dsimp only
  split
  · exact AFr_w (AFr_t h AFr_compact) (by decide) (by decide)
  · exact AFr_w h (by decide) (by decide)
def cnT (b : AA) (s : Nat) : AA := if aS b 75 s < aS b 64 s then b
  else if ¬ aNewM (aS b 65 s) = 0 then
    if 300 ≤ aLast b s - aBase b s then b else A_sendAll (A_appendCode b s (aNewM (aS b 65 s) ||| (aLearn (aS b 65 s) <<< 14))) s false
  else if aIn (aOldM (aS b 65 s)) s = false then A_stepDown b s (aS b 53 s) (-1)
  else b
theorem A_count_e {a : AA} {s : Nat} : A_count a s = cnT (if aS a 75 s < aCommon (aS a 65 s) (fun p => aS a 87 (7 * s + p)) 7 ∧ aTermAt a s (aCommon (aS a 65 s) (fun p => aS a 87 (7 * s + p)) 7) = aS a 53 s then A_apply (aI a 75 s (aCommon (aS a 65 s) (fun p => aS a 87 (7 * s + p)) 7)) s else a) s := by
  unfold A_count cnT
  with_reducible rfl
theorem M_count0 {F : Nat} {σ : RS} {a : AA} {u : AU} {s : Nat} (hF : 20000 ≤ F) (h : RM σ a u) (hs : s < 7) (hup : aS a 52 s = 1) (hz : u.2 s) (hz7 : u.2 (7 + s)) (hmk : u.2 (14 + s)) (hr : aS a 73 s = 3) (hd : dRq a s) (hw : wN a < 2147483647) (hmx : (aS a 151 s).toInt < 2147483000)
    (hp : ∀ b, b = a ∨ b = A_apply (aI a 75 s (aCommon (aS a 65 s) (fun p => aS a 87 (7 * s + p)) 7)) s → pRoom b s) : WP (m_count0 F σ (Int32.ofNat s)) (fun τ => RM τ (A_count a s) u) := by
  have ld := h.2.2.2.2.2.2.2.2.2.2.2.2.2.2.2.2.2.2.2.2.2.2.2 s hs hz7 hr
  have mk := h.2.2.2.2.2.2.2.2.2.2.2.2.2.2.2.2.2.2.2.2.2.2.1 s hs hmk
  have wl := RM_wl h hs
  have rest : ∀ (τ : RS) (b : AA), RM τ b u → aS b 52 s = 1 → aS b 73 s = 3 → wN b < 2147483647 → pRoom b s → WP (m_count0_b44 F τ (Int32.ofNat s)) (fun τ => RM τ (cnT b s) u) := by
    intro τ b hb hup hr hw hp
    unfold m_count0_b44 cnT
    refine WP_r7 hb (by decide) hs (WP_r7 hb (by decide) hs ?_)
    refine WP_if c2_le (fun q => ?_) (fun q => ?_)
    · rw [if_neg (Int32.not_lt.mpr q)]
      refine WP_eq (m_fresh_n hs) ?_
      rw [RM_7 (f := 65) hb (by decide) hs]
      refine WP_if c0_eq (fun q2 => ?_) (fun q2 => ?_)
      · rw [if_neg (fun y => y q2)]
        refine WP_eq (m_old_n hs) ?_
        rw [RM_7 (f := 65) hb (by decide) hs]
        have ein : ((aOldM (aS b 65 s) >>> (Int32.ofNat s &&& 31)) &&& 1 = 0) ↔ aIn (aOldM (aS b 65 s)) s = false := by
          rw [i_31 (by omega), b_bit]
          cases aIn (aOldM (aS b 65 s)) s with
          | false => exact ⟨fun _ => rfl, fun _ => rfl⟩
          | true => exact ⟨fun y => absurd (show (1 : Int32) = 0 from y) (by decide), fun y => nomatch y⟩
        refine WP_if c0_ne (fun q3 => ?_) (fun q3 => ?_)
        · rw [if_neg (fun y => q3 (ein.mpr y))]
          exact WP_some hb
        · rw [if_pos (ein.mp (Classical.not_not.mp q3))]
          refine WP_r7 hb (by decide) hs ?_
          refine WP_call (M_stepDown (by omega) hb hs hw) (fun p hp => WP_some hp)
      · rw [if_pos q2]
        refine WP_r7 hb (by decide) hs (WP_r7 hb (by decide) hs ?_)
        refine WP_if c2_lt (fun q3 => ?_) (fun q3 => ?_)
        · have q3 : ¬ 300 ≤ aLast b s - aBase b s := fun y => Int32.not_le.mpr q3 y
          rw [if_neg q3]
          refine WP_eq (m_fresh_n hs) ?_
          refine WP_eq (m_learned_n hs) ?_
          rw [RM_7 (f := 65) hb (by decide) hs]
          refine WP_call (M_appendCode (by omega) hb hs hup hz (pApp_of (RM_wl hb hs) hp q3)) (fun p1 hp1 => ?_)
          refine WP_call (M_sendAll (bt := false) (by omega) hp1 hs hz7 ?_) (fun p2 hp2 => WP_some hp2)
          unfold A_appendCode
          rw [AFr_app.1 73 (by decide)]
          exact hr
        · have q3 : 300 ≤ aLast b s - aBase b s := Int32.not_lt.mp q3
          rw [if_pos q3]
          exact WP_some hb
    · rw [if_pos (Int32.not_le.mp q)]
      exact WP_some hb
  rw [A_count_e]
  unfold m_count0 m_count0_b0
  refine WP_eq (M_common (w := 0) (by omega) h hs (by omega)) ?_
  dsimp only
  have hpa := hp a (Or.inl rfl)
  have hpb := hp _ (Or.inr rfl)
  have hle : aCommon (aS a 65 s) (fun p => aS a 87 (7 * s + p)) 7 ≤ aLast a s := aCommon_le (by obtain ⟨w1, w2, w3, w4⟩ := wl; omega) 7 (fun p hp => (ld p hp).2.2.1)
  rw [show (fun p => aS a (fW 0) (7 * s + p)) = (fun p => aS a 87 (7 * s + p)) from rfl]
  generalize aCommon (aS a 65 s) (fun p => aS a 87 (7 * s + p)) 7 = n at hle hpb
  refine WP_r7 h (by decide) hs ?_
  refine WP_if c2_le (fun q => ?_) (fun q => ?_)
  · rw [if_neg (fun y => Int32.not_lt.mpr q y.1)]
    exact rest σ a h hup hr hw hpa
  · have q : aS a 75 s < n := Int32.not_le.mp q
    have hhas : aHas a s n = true := by
      unfold aHas
      rw [Bool.and_eq_true_iff]
      refine ⟨decide_eq_true ?_, decide_eq_true hle⟩
      have m1 := Int32.le_iff_toInt_le.mp mk.1
      have m2 := Int32.le_iff_toInt_le.mp mk.2.1
      rw [Int32.lt_iff_toInt_lt] at q ⊢
      omega
    refine WP_eq (M_termAt h hs (Or.inr hhas)) ?_
    refine WP_r7 h (by decide) hs ?_
    refine WP_if c2_ne (fun q2 => ?_) (fun q2 => ?_)
    · rw [if_neg (fun y => q2 y.2)]
      exact rest σ a h hup hr hw hpa
    · rw [if_pos ⟨q, Classical.not_not.mp q2⟩]
      refine WP_wmk h (Or.inl rfl) hs (fun _ k => ?_) (fun σ1 h1 => ?_)
      · have t75 : aS (aI a 75 s n) 75 s = n := by rw [aS_I, if_pos ⟨rfl, rfl⟩]
        unfold WMk
        rw [show aBase (aI a 75 s n) s = aBase a s from rfl, show aLast (aI a 75 s n) s = aLast a s from rfl, show aS (aI a 75 s n) 76 s = aS a 76 s from rfl, show aS (aI a 75 s n) 77 s = aS a 77 s from rfl, t75]
        refine ⟨k.1, ?_, hle, k.2.2.2⟩
        have m2 := Int32.le_iff_toInt_le.mp k.2.1
        rw [Int32.lt_iff_toInt_lt] at q
        exact Int32.le_iff_toInt_le.mpr (by omega)
      · refine WP_call (M_apply hF h1 hs hup hz hmk hd hmx) (fun p1 hp1 => ?_)
        have fr := @AFr_apply (aI a 75 s n) s
        generalize A_apply (aI a 75 s n) s = b at hp1 fr hpb
        refine rest p1 b hp1 ?_ ?_ ?_ hpb
        · rw [fr.1 52 (by decide)]; exact hup
        · rw [fr.1 73 (by decide)]; exact hr
        · rw [wN_fr fr (by decide)]
          exact hw
