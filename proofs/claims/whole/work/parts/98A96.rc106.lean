/-! a run of the face, calls and what is down -/
section RF0
variable {t B B' c d k s : Nat} {a b : AA}
theorem nx_none (h : aNext a = none) : aWay a = [] ∧ ∀ i, i < 23 → ¬ 0 ≤ aBn a i := by
  unfold aNext at h
  cases ew : aWay a with
  | nil =>
    rw [ew] at h
    cases hb : aBell a 23 with
    | none => exact ⟨rfl, aBell_no hb⟩
    | some f =>
      rw [hb] at h
      cases h
  | cons x r =>
    rw [ew] at h
    cases hb : aBell a 23 with
    | none =>
      rw [hb] at h
      cases h
    | some f =>
      rw [hb] at h
      have h : (if x.1 < aBt a f ∨ (x.1 = aBt a f ∧ x.2.1 < aBn a f) then some ((x.1, none) : Int32 × Option Nat) else some (aBt a f, some f)) = none := h
      split at h <;> cases h
/-- nothing is left until a time: it may come -/
theorem Ev_now {u : Nat} {v : Int32} (h : Ev t B c d a) (hv : v.toInt = u) (hend : ∀ e, aNext a = some e → ¬ e.1 ≤ v) (hB : B ≤ B') (hu : u + 2001 ≤ B') (hB2 : B' < 1073741824) : Ev u B' c (dueW u (aWay a) + dueB u a) (aI a 1 0 v) := by
  have hm : (∀ x ∈ aWay a, v.toInt ≤ x.1.toInt) ∧ ∀ i, i < 23 → 0 ≤ (aBn a i).toInt → v.toInt ≤ (aBt a i).toInt := by
    cases en : aNext a with
    | none =>
      obtain ⟨h1, h2⟩ := nx_none en
      refine ⟨fun x hx => ?_, fun i hi h0 => absurd ?_ (h2 i hi)⟩
      · rw [h1] at hx
        exact absurd hx List.not_mem_nil
      · rw [Int32.le_iff_toInt_le, i_0]
        exact h0
    | some e =>
      obtain ⟨m1, m2, _⟩ := nx_min h.2.2.2.2.2.1 en
      have := hend e en
      rw [Int32.le_iff_toInt_le] at this
      refine ⟨fun x hx => ?_, fun i hi h0 => ?_⟩
      · have := m1 x hx
        omega
      · have := m2 i hi h0
        omega
  have g := Ev_move (d' := dueW u (aWay a) + dueB u a) h hv hm.1 hm.2 hB hu hB2 (Nat.le_refl _)
  have e0 : ∀ f, f ≠ 3 → ∀ i, aS (aI a 1 0 v) f i = aS (hp1 a v) f i := fun f hf i => (aS_If hf).symm
  exact Ev_same (fun f hf i => e0 f ((by decide : ∀ f ∈ evF, f ≠ 3) f hf) i) rfl g
theorem EW_runFace {n : Int32} (h : Ev t B c d a) (w : Wd a) (z : Dn a) (hB : t + 3001 ≤ B) (hc : c + 4000000 + 200 < 2147483648) (hend : aInR n 1 1000 = true → ∀ e, aNext (aRun (aNow a + n) 1000000 a).1 = some e → ¬ e.1 ≤ aNow a + n) :
    ∃ u d', t ≤ u ∧ u ≤ t + 1000 ∧ Ev u B (c + 4000000) d' (A_runFace a n).1 ∧ Wd (A_runFace a n).1 ∧ Dn (A_runFace a n).1 := by
  unfold A_runFace
  by_cases q1 : (!aInR n 1 1000) = true
  · rw [if_pos q1]
    exact ⟨t, d, Nat.le_refl _, Nat.le_add_right _ _, Ev_w (Nat.le_add_right _ _) hc (Nat.le_refl _) h, w, z⟩
  · rw [if_neg q1]
    have hn := inR_k q1
    rw [L_1, L_1000] at hn
    have q2 : aInR n 1 1000 = true := by
      cases y : aInR n 1 1000
      · rw [y] at q1
        exact absurd rfl q1
      · rfl
    have h1 := h.1
    have ht : (aNow a + n).toInt = (t : Int) + n.toInt := by
      rw [i_add (by omega) (by omega), h1.1]
    obtain ⟨u, d', r1, r2, r3, r4, r5⟩ := EW_run (B := B) (till := aNow a + n) (by omega) 1000000 a t c d h w z (by omega)
    have hv : (aNow a + n).toInt = ((t + n.toInt.toNat : Nat) : Int) := by omega
    exact ⟨t + n.toInt.toNat, _, by omega, by omega, Ev_now r3 hv (hend q2) (Nat.le_refl _) (by omega) h1.2.2.1, Wd_nn (by decide) r4, D3_Dn (D3_I (by decide)) r5⟩
theorem Dn_giveUp {n : Int32} (z : Dn a) : Dn (A_giveUp a n).1 := by
  unfold A_giveUp
  split
  · exact z
  · split
    · exact z
    · exact D3_Dn D3_resign z
theorem Dn_down (z : Dn a) (hs : s < 7) : Dn (aDown a s) := by
  have e1 : ∀ f, f ≠ 52 → f ≠ 29 → f ≠ 31 → ∀ i, aS (aDown a s) f i = aS a f i := fun f h1 h2 h3 i => (show aS (aI (aI (aI a 52 s 0) 29 s (-1)) 31 s (-1)) f i = aS a f i from (aS_If h3).trans ((aS_If h2).trans (aS_If h1)))
  intro i hi h0
  have e31 : aS (aDown a s) 31 i = if i = s then -1 else aS a 31 i := by
    show aS (aI (aI (aI a 52 s 0) 29 s (-1)) 31 s (-1)) 31 i = _
    by_cases q : i = s
    · rw [q, evI_e, if_pos rfl]
    · rw [evI_i q, if_neg q, aS_If (by decide), aS_If (by decide)]
  have e29 : aS (aDown a s) 29 i = if i = s then -1 else aS a 29 i := by
    show aS (aI (aI (aI a 52 s 0) 29 s (-1)) 31 s (-1)) 29 i = _
    rw [aS_If (by decide)]
    by_cases q : i = s
    · rw [q, evI_e, if_pos rfl]
    · rw [evI_i q, if_neg q, aS_If (by decide)]
  rw [e31, e29]
  by_cases q : i = s
  · rw [if_pos q, if_pos q]
    exact ⟨by decide, by decide⟩
  · rw [if_neg q, if_neg q]
    refine z i hi ?_
    have : aS (aDown a s) 52 i = aS a 52 i := by
      show aS (aI (aI (aI a 52 s 0) 29 s (-1)) 31 s (-1)) 52 i = _
      rw [aS_If (by decide), aS_If (by decide), evI_i q]
    rw [← this]
    exact h0
theorem Dn_0 {n : Int32} {J : Int64} : Dn (A_new n J) := by
  rw [new_e]
  intro i _ h0
  have e : aS (nA (aCode0 n) J 7) 52 i = 1 := rfl
  rw [e] at h0
  exact absurd h0 (by decide)
end RF0
