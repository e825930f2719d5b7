/-! calls of the face: of what is down nothing is awaited -/
section DF0
variable {t B B' c d k s : Nat} {a b : AA}
theorem D3_crashFiles {r : Int64} : ∀ n, D3 a (aCrashFiles a s r n).1 := by
  intro n
  induction n with
  | zero => exact D3_r
  | succ n ih => exact D3_t ih (D3_fr AFr_crashFile (by decide))
theorem Dn_crash {x : Int32} {r : Int64} (z : Dn a) : Dn (A_crash a x r).1 := by
  unfold A_crash
  by_cases q1 : (!aInR x 0 6) = true
  · rw [if_pos q1]
    exact z
  · rw [if_neg q1]
    have hs := tn_7 q1
    generalize x.toNatClampNeg = i at hs ⊢
    dsimp only
    split
    · exact z
    · exact D3_Dn (D3_t (D3_crashFiles 16) (D3_t (D3_I (by decide)) (D3_I (by decide)))) (Dn_down z hs)
theorem D3_outs : ∀ (v : List AL) (a : AA), D3 a (A_sendAllOut a v) := by
  intro v
  induction v with
  | nil => exact fun a => D3_r
  | cons l r ih => exact fun a => D3_t (D3_fr AFr_sendOut (by decide)) (ih _)
theorem D3_syncAll : D3 a (A_syncAll a s) := D3_t (D3_t (D3_fr (AFr_syncFs 16) (by decide)) (D3_I (by decide))) (D3_I (by decide))
theorem Dn_stop {x : Int32} (z : Dn a) : Dn (A_stop a x).1 := by
  unfold A_stop
  by_cases q1 : (!aInR x 0 6) = true
  · rw [if_pos q1]
    exact z
  · rw [if_neg q1]
    have hs := tn_7 q1
    generalize x.toNatClampNeg = i at hs ⊢
    dsimp only
    split
    · exact z
    · exact Dn_down (D3_Dn (D3_t D3_syncAll (D3_outs _ _)) z) hs
theorem Dn_start {x : Int32} (w : Wd a) (z : Dn a) : Dn (A_start a x).1 := by
  unfold A_start
  by_cases q1 : (!aInR x 0 6) = true
  · rw [if_pos q1]
    exact z
  · rw [if_neg q1]
    have hs := tn_7 q1
    dsimp only
    by_cases q2 : ¬ aS a 52 x.toNatClampNeg = 0
    · rw [if_pos q2]
      exact z
    · rw [if_neg q2]
      have h31 := (z _ hs (Decidable.byContradiction q2)).1
      generalize x.toNatClampNeg = i at hs h31 ⊢
      show Dn (A_drawAlarm (stA (A_recover (aI a 52 i 1) i) i) i)
      have w1 : Wd (aI a 52 i 1) := Wd_nn (by decide) w
      have z1 : Dn (aI a 52 i 1) := by
        intro j hj h0
        by_cases q : j = i
        · rw [q, evI_e] at h0
          exact absurd h0 (by decide)
        · rw [evI_i q] at h0
          have := z j hj h0
          rw [aS_If (by decide), aS_If (by decide)]
          exact this
      exact Dn_Pa (Pa_d (Pa_0 (Pa_recover (P := sL i) (w1.1 i hs) (by rw [aS_If (by decide)]; exact h31)) Pa_stA)) (by rw [evI_e]; decide) z1
theorem Dn_ask {x kind kk v : Int32} (z : Dn a) : Dn (A_askFace a x kind kk v).1 := by
  unfold A_askFace
  dsimp only
  by_cases q1 : (!aInR x 0 7) = true
  · rw [if_pos q1]
    exact z
  · rw [if_neg q1]
    split
    · exact z
    · split
      · exact z
      · have hx := inR_k q1
        rw [i_0, L_7] at hx
        have hk : x.toNatClampNeg < 8 := by
          show x.toInt.toNat < 8
          omega
        generalize x.toNatClampNeg = i at hk ⊢
        have key : ∀ (q : AK) (j o : Int32), Dn (aI (aI (aI (aI (aAdd (aAkS (aTpS a []) (aAk a ++ [q])) 141 0 1) 137 i j) 124 i 1) 129 i 0) 131 i o) := fun q j o => D3_Dn (D3_t (D3_t (D3_t (D3_t (D3_t (D3_fr AFr_ak (by decide)) (D3_I (by decide))) (D3_I (by decide))) (D3_I (by decide))) (D3_I (by decide))) (D3_I (by decide))) (show Dn (aTpS a []) from z)
        have fin : ∀ b, Dn b → ∀ (p : Prop) [Decidable p], Dn (A_demand (aAdd (if p then aAdd b 127 i 1 else b) 128 i 1) i) := by
          intro b hb p _
          by_cases y : p
          · rw [if_pos y]
            exact D3_Dn (D3_t (D3_t (D3_I (by decide)) (D3_I (by decide))) (D3_demand hk)) hb
          · rw [if_neg y]
            exact D3_Dn (D3_t (D3_I (by decide)) (D3_demand hk)) hb
        exact fin _ (key _ _ _) _
theorem may_up (h : aMay a s = true) : ¬ aS a 52 s = 0 := by
  unfold aMay at h
  rw [Bool.and_eq_true_iff, Bool.and_eq_true_iff, decide_eq_true_eq] at h
  rw [h.1.1]
  decide
theorem chg_up (h : aMayChange a s = true) : ¬ aS a 52 s = 0 := by
  unfold aMayChange at h
  rw [Bool.and_eq_true_iff, Bool.and_eq_true_iff, Bool.and_eq_true_iff] at h
  exact may_up h.1.1.1
theorem Dn_code {i : Nat} {cc : Int32} (w : Wd a) (z : Dn a) (hs : i < 7) (hu : ¬ aS a 52 i = 0) : Dn (A_sendAll (A_appendCode a i cc) i false) := Dn_Pa (Pa_0 (Pa_appendCode (w.1 i hs)) Pa_sendAll) hu z
theorem Dn_members {x m : Int32} (w : Wd a) (z : Dn a) : Dn (A_members a x m).1 := by
  unfold A_members
  by_cases q1 : (!aInR x 0 6) = true
  · rw [if_pos q1]
    exact z
  · rw [if_neg q1]
    dsimp only
    split
    · rename_i q
      rw [Bool.and_eq_true_iff, Bool.and_eq_true_iff] at q
      exact Dn_code w z (tn_7 q1) (chg_up q.1.1)
    · exact z
theorem Dn_learners {x m : Int32} (w : Wd a) (z : Dn a) : Dn (A_learners a x m).1 := by
  unfold A_learners
  by_cases q1 : (!aInR x 0 6) = true
  · rw [if_pos q1]
    exact z
  · rw [if_neg q1]
    dsimp only
    split
    · rename_i q
      rw [Bool.and_eq_true_iff, Bool.and_eq_true_iff] at q
      exact Dn_code w z (tn_7 q1) (chg_up q.1.1)
    · exact z
theorem Dn_hand {x y : Int32} (w : Wd a) (z : Dn a) : Dn (A_hand a x y).1 := by
  unfold A_hand
  by_cases q1 : (!aInR x 0 6) = true
  · rw [if_pos q1]
    exact z
  · rw [if_neg q1]
    have hs := tn_7 q1
    generalize x.toNatClampNeg = i at hs ⊢
    dsimp only
    split
    · rename_i q2
      rw [Bool.and_eq_true_iff, Bool.and_eq_true_iff, Bool.and_eq_true_iff] at q2
      have hy : aInR y 0 6 = true := q2.1.1.2
      have p0 : Pa i (sL i) 0 a (aI (aI a 80 i y) 81 i (aNow a)) := Pa_n (by decide) (Pa_n80 (inR_1 hy) Pa.nil)
      have p : ∀ (q : Prop) [Decidable q], Pa i (sL i) 0 a (if q then A_tell (aI (aI a 80 i y) 81 i (aNow a)) i y 9 0 0 0 0 else A_send (aI (aI a 80 i y) 81 i (aNow a)) i y.toNatClampNeg false) := fun q _ => Pa_if (fun _ => Pa_0 p0 (Pa_tell hy (by decide))) (fun _ => Pa_0 p0 (Pa_send (inR_lt hy)))
      exact Dn_Pa (p _) (may_up q2.1.1.1) z
    · exact z
theorem Dn_step (w : Wd a) (hp : (aWay a).Pairwise apLt) (z : Dn a) : Dn (A_step a).1 := by
  unfold A_step
  cases en : aNext a with
  | none => exact z
  | some e => exact Dn_happen w hp en z
/-- the next event alone -/
theorem EW_step (h : Ev t B c d a) (w : Wd a) (hB : B + 2001 ≤ B') (hB2 : B' < 1073741824) (hc : c + 4 + 200 < 2147483648) : ∃ u d', t ≤ u ∧ u ≤ B ∧ Ev u B' (c + 4) d' (A_step a).1 ∧ Wd (A_step a).1 := by
  unfold A_step
  cases en : aNext a with
  | none =>
    have h1 := h.1
    exact ⟨t, d, Nat.le_refl _, by omega, Ev_B (by omega) hB2 (Ev_w (Nat.le_add_right _ _) hc (Nat.le_refl _) h), w⟩
  | some e =>
    have hb : e.1.toInt ≤ (B : Int) := by
      obtain ⟨_, _, m3⟩ := nx_min h.2.2.2.2.2.1 en
      unfold nxE at m3
      split at m3
      · obtain ⟨q1, q2, q3⟩ := m3
        have := h.2.2.2.1 _ q1 q2
        rw [q3] at this
        omega
      · obtain ⟨x, r, q1, q2⟩ := m3
        have := h.2.2.1 x (by rw [q1]; exact List.mem_cons_self)
        rw [q2] at this
        omega
    obtain ⟨u, e1, e2, e3, e4⟩ := EW_happen h w en (show B ≤ B' by omega) (by omega) hB2 hc
    obtain ⟨h2, w2⟩ := e4 (dueW u (aWay a) + dueB u a) (Nat.le_add_right _ _)
    exact ⟨u, _, e2, e3, h2, w2⟩
end DF0
