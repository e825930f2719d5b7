/-! how much a chain holds -/
theorem load_len {K : List AK} {σ : RS} {a : AA} {s b : Nat} (hk : sgOK K σ a s) (hb : b < 1073741824) : ∀ k f, 4 ≤ f → f < 16 → aIsSeg a s f = true → b + 1 ≤ fsN a s f → (aLoad a s (Int32.ofNat b) (aChain a s k f)).length = chL a s (aChain a s k f) := by
  intro k
  induction k with
  | zero => exact fun _ _ _ _ _ => rfl
  | succ k ih =>
    intro f h4 h16 hf hbf
    rw [aChain_s]
    obtain ⟨n0, hn0⟩ : ∃ n0, fsN a s f = n0 + 1 := ⟨fsN a s f - 1, by omega⟩
    rw [aLoad_c hk h4 h16 hf hn0.symm hb, show b - n0 = 0 by omega, List.drop_zero, List.length_append]
    have hc : chL a s (f :: chNx a s k f) = wlN a s f + chL a s (chNx a s k f) := rfl
    rw [hc]
    have hW : (aWhole (aFc a s f)).length = wlN a s f := rfl
    rw [hW]
    rcases chNx_c (k := k) hk h4 h16 hf with hn | ⟨g, g1, g2, g3, g4, g5, hn⟩
    · rw [hn]
      rfl
    · rw [hn, ih g g1 g2 g3 (by omega)]
theorem rcC_good {K : List AK} {σ : RS} {a : AA} {s b : Nat} {T : Int32} (hk : sgOK K σ a s) (hb : b < 1073741824) : (rcC a s b T).Nodup ∧ (∀ g ∈ rcC a s b T, 4 ≤ g ∧ g < 16 ∧ aIsSeg a s g = true) ∧ ((rcC a s b T = [] ∧ aLoad a s (Int32.ofNat b) (rcC a s b T) = []) ∨ ∃ n : Nat, 1 ≤ n ∧ n ≤ b + 1 ∧ chOK (fun g => fT (aFc a s g)) (((b + (aLoad a s (Int32.ofNat b) (rcC a s b T)).length : Nat) : Int) + 1) (n : Int) (rcC a s b T)) := by
  unfold rcC
  cases hf : aFirstSeg a s (Int32.ofNat b) aSegs with
  | none => exact ⟨List.nodup_nil, fun g hg => absurd hg List.not_mem_nil, Or.inl ⟨rfl, rfl⟩⟩
  | some f =>
    dsimp only
    by_cases q : aTells (aFc a s f) (Int32.ofNat b) T = true
    · rw [if_pos q]
      obtain ⟨i1, i2, i3, i4⟩ := first_mem hf
      obtain ⟨h4, h16⟩ := seg_mem.mp i1
      obtain ⟨⟨S, hS⟩, k6, k7, k8⟩ := (hk f h4 h16).2.2.2.2 i2
      obtain ⟨w1, w2, w3, w4⟩ := seg_whole hS
      obtain ⟨n0, hn0⟩ : ∃ n0, fsN a s f = n0 + 1 := ⟨fsN a s f - 1, by omega⟩
      have hW : (aWhole (aFc a s f)).length = wlN a s f := rfl
      have hbn : n0 ≤ b := by
        rw [k6, hn0, i_s, i_ltn (by omega) (by omega)] at i3
        omega
      have hbW : b ≤ n0 + wlN a s f := by
        rw [tells_e (by rw [k6, hn0]) hbn hb w4 w1 (by omega), Bool.and_eq_true] at q
        have := q.1
        unfold scZ at this
        rw [Bool.or_eq_true, decide_eq_true_eq, decide_eq_true_eq, hW] at this
        omega
      obtain ⟨c1, c2, c3⟩ := chain_good hk 12 f h4 h16 i2
      refine ⟨c1, fun g hg => ⟨(c2 g hg).1, (c2 g hg).2.1, (c2 g hg).2.2.1⟩, Or.inr ⟨fsN a s f, by omega, by omega, ?_⟩⟩
      have el : b + (aLoad a s (Int32.ofNat b) (aChain a s 12 f)).length + 1 = fsN a s f + chL a s (aChain a s 12 f) := by
        rw [aChain_s, aLoad_c hk h4 h16 i2 hn0.symm hb, List.length_append, List.length_drop, hW]
        have hc : chL a s (f :: chNx a s 11 f) = wlN a s f + chL a s (chNx a s 11 f) := rfl
        rw [hc]
        rcases chNx_c (k := 11) hk h4 h16 i2 with hn | ⟨g, g1, g2, g3, g4, g5, hn⟩
        · rw [hn]
          have e1 : (aLoad a s (Int32.ofNat b) []).length = 0 := rfl
          have e2 : chL a s [] = 0 := rfl
          rw [e1, e2]
          omega
        · rw [hn, load_len hk hb 11 g g1 g2 g3 (by omega)]
          omega
      have e3 : (((b + (aLoad a s (Int32.ofNat b) (aChain a s 12 f)).length : Nat) : Int) + 1) = (fsN a s f : Int) + (chL a s (aChain a s 12 f) : Nat) := by omega
      rw [e3]
      exact c3
    · rw [if_neg q]
      exact ⟨List.nodup_nil, fun g hg => absurd hg List.not_mem_nil, Or.inl ⟨rfl, rfl⟩⟩
