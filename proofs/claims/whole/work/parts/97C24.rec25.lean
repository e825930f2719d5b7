/-! a chain that was read is in order -/
theorem chNx_c {K : List AK} {σ : RS} {a : AA} {s k f : Nat} (hk : sgOK K σ a s) (h4 : 4 ≤ f) (h16 : f < 16) (hf : aIsSeg a s f = true) : chNx a s k f = [] ∨ ∃ g, 4 ≤ g ∧ g < 16 ∧ aIsSeg a s g = true ∧ fsN a s g = fsN a s f + wlN a s f ∧ 1 ≤ wlN a s f ∧ chNx a s k f = aChain a s k g := by
  obtain ⟨⟨S, hS⟩, k6, k7, k8⟩ := (hk f h4 h16).2.2.2.2 hf
  have hW : (aWhole (aFc a s f)).length = wlN a s f := rfl
  unfold chNx
  cases hl : (aWhole (aFc a s f)).getLast? with
  | none => exact Or.inl rfl
  | some e =>
    dsimp only
    have h1 : 1 ≤ wlN a s f := by
      rw [← hW]
      cases hw : aWhole (aFc a s f) with
      | nil =>
        rw [hw] at hl
        cases hl
      | cons x r => exact Nat.succ_le_succ (Nat.zero_le _)
    cases hg : aSegAt a s ((aFc a s f).1 2 + Int32.ofNat (wlN a s f)) e.1 with
    | none => exact Or.inl rfl
    | some g =>
      obtain ⟨g1, g2, g3, g4, g5⟩ := segAt_spec hg
      obtain ⟨_, g6, g7, g8⟩ := (hk g g1 g2).2.2.2.2 g3
      refine Or.inr ⟨g, g1, g2, g3, ?_, h1, rfl⟩
      rw [g6, k6, i_ad, i_eqi (by omega) (by omega)] at g4
      exact g4
def chL (a : AA) (s : Nat) (c : List Nat) : Nat := (c.map (wlN a s)).sum
theorem chain_good {K : List AK} {σ : RS} {a : AA} {s : Nat} (hk : sgOK K σ a s) : ∀ k f, 4 ≤ f → f < 16 → aIsSeg a s f = true →
    (aChain a s k f).Nodup ∧ (∀ g ∈ aChain a s k f, 4 ≤ g ∧ g < 16 ∧ aIsSeg a s g = true ∧ fsN a s f ≤ fsN a s g) ∧ chOK (fun g => fT (aFc a s g)) ((fsN a s f : Int) + (chL a s (aChain a s k f) : Nat)) (fsN a s f : Int) (aChain a s k f) := by
  intro k
  induction k with
  | zero =>
    intro f _ _ _
    refine ⟨List.nodup_nil, fun g hg => absurd hg List.not_mem_nil, ?_⟩
    show (fsN a s f : Int) = (fsN a s f : Int) + ((0 : Nat) : Int)
    omega
  | succ k ih =>
    intro f h4 h16 hf
    obtain ⟨⟨S, hS⟩, k6, k7, k8⟩ := (hk f h4 h16).2.2.2.2 hf
    obtain ⟨w1, w2, w3, w4⟩ := seg_whole hS
    have hw := segF_wf hS
    have hS14 := hS.2.2.1
    have hW : (aWhole (aFc a s f)).length = wlN a s f := rfl
    have t2 : ((fT (aFc a s f)).1 2).toInt = (fsN a s f : Int) := by
      show ((aFc a s f).1 2).toInt = _
      rw [k6, Int32.toInt_ofNat_of_lt (by omega)]
    have t1 : ((fT (aFc a s f)).1 1).toInt = aFrame (fT (aFc a s f)).2.1 (aWhole (fT (aFc a s f))).length := by
      rw [fT_whole hS, frame_T w4 (Nat.le_refl _), fT_1 hw, Int32.toInt_ofNat_of_lt (by omega), ofs_a hw]
    have t0 : (fT (aFc a s f)).1 0 = 1 := (isSeg_b.mp hf).1
    have tw : (aWhole (fT (aFc a s f))).length = wlN a s f := by
      rw [fT_whole hS]
      rfl
    rw [aChain_s]
    rcases chNx_c (k := k) hk h4 h16 hf with hn | ⟨g, g1, g2, g3, g4, g5, hn⟩
    · rw [hn]
      refine ⟨by simp, fun g hg => ?_, h4, h16, t0, t2, t1, ?_⟩
      · rw [List.mem_singleton] at hg
        rw [hg]
        exact ⟨h4, h16, hf, Nat.le_refl _⟩
      · show (fsN a s f : Int) + ((aWhole (fT (aFc a s f))).length : Int) = (fsN a s f : Int) + ((wlN a s f + 0 : Nat) : Int)
        rw [tw]
        omega
    · rw [hn]
      obtain ⟨i1, i2, i3⟩ := ih g g1 g2 g3
      refine ⟨List.nodup_cons.mpr ⟨fun z => ?_, i1⟩, fun x hx => ?_, h4, h16, t0, t2, t1, ?_⟩
      · have := (i2 f z).2.2.2
        omega
      · rcases List.mem_cons.mp hx with rfl | hx
        · exact ⟨h4, h16, hf, Nat.le_refl _⟩
        · obtain ⟨x1, x2, x3, x4⟩ := i2 x hx
          exact ⟨x1, x2, x3, by omega⟩
      · have e1 : (fsN a s f : Int) + ((aWhole (fT (aFc a s f))).length : Int) = (fsN a s g : Int) := by
          rw [tw, g4]
          omega
        have e2 : (fsN a s f : Int) + (chL a s (f :: aChain a s k g) : Nat) = (fsN a s g : Int) + (chL a s (aChain a s k g) : Nat) := by
          have : chL a s (f :: aChain a s k g) = wlN a s f + chL a s (aChain a s k g) := rfl
          rw [this, g4]
          omega
        show chOK _ ((fsN a s f : Int) + (chL a s (f :: aChain a s k g) : Nat)) ((fsN a s f : Int) + ((aWhole (fT (aFc a s f))).length : Int)) (aChain a s k g)
        rw [e1, e2]
        exact i3
