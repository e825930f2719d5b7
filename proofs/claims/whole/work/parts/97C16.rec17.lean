/-! the snapshot that reaches further -/
theorem shot_take {F : Nat} {K220 : RS → Int32 → Int32 → Option RS} {K : List AK} {τ : RS} {s g : Nat} {H : AF} {Q : RS → Prop} (hF : 14000 ≤ F) (hs : s < 7) (h2 : 2 ≤ g) (h4 : g < 4) (hR : RFl K τ (2 * (16 * s + g)) g H) (h1 : H.1 0 = 1) (hw : wfM H.2.2)
    (fin : ∀ τ', (∀ f i, ¬ (f = 66 ∧ i / 14000 = s) → τ'.1 f i = (setI (setI (setI (setI (setI τ 47 s (Int32.ofNat g)) 55 s (H.1 2)) 57 s (H.1 3)) 58 s (H.1 4)) 67 s (H.1 1 - 20)).1 f i) → τ'.2 = τ.2 → RSh τ' s (H.1 1 - 20) H.2.2 → WP (K220 τ' (Int32.ofNat s) (Int32.ofNat (g + 1))) Q) :
    WP (m_recover_b316 F K220 τ (Int32.ofNat s) (Int32.ofNat g) (Int32.ofNat (2 * (16 * s + g)))) Q := by
  obtain ⟨_, _, r3, ⟨S, hS, e1, _, _, hb⟩, _, _, r7⟩ := hR
  obtain ⟨v39, v40, v41, v42, v1⟩ := r7 h2 h4 h1
  have hk : 2 * (16 * s + g) < 224 := by omega
  have hl := (aEnc_len hw).1
  have hSe : S = 20 + (aEnc H.2.2).length := by
    rw [v1, i_eqi (by omega) (by omega)] at e1
    exact e1.symm
  have e67 : H.1 1 - 20 = Int32.ofNat (aEnc H.2.2).length := by
    rw [v1, show (20 : Int32) = Int32.ofNat 20 from rfl, i_subn (by omega), show 20 + (aEnc H.2.2).length - 20 = (aEnc H.2.2).length by omega]
  have hat : ∀ j, j < (aEnc H.2.2).length → rB (τ.2 36) (14000 * (2 * (16 * s + g)) + (20 + j)) = (aEnc H.2.2).getD j 0 := by
    intro j hj
    refine hb (20 + j) _ (by omega) ?_
    unfold fBy
    rw [if_neg (by omega), if_pos h4, List.getElem?_append_right (by rw [List.length_replicate]; omega), List.length_replicate, show 20 + j - 20 = j by omega, List.getElem?_map, List.getElem?_eq_getElem hj, List.getD_eq_getElem?_getD, List.getElem?_eq_getElem hj]
    rfl
  unfold m_recover_b316
  refine WP_st rfl 7 (by decide +kernel) hs ?_
  refine WP_ld rfl 224 (by decide +kernel) hk ?_
  refine WP_st rfl 7 (by decide +kernel) hs ?_
  refine WP_ld rfl 224 (by decide +kernel) hk ?_
  refine WP_st rfl 7 (by decide +kernel) hs ?_
  refine WP_ld rfl 224 (by decide +kernel) hk ?_
  refine WP_st rfl 7 (by decide +kernel) hs ?_
  refine WP_ld rfl 224 (by decide +kernel) hk ?_
  refine WP_st rfl 7 (by decide +kernel) hs ?_
  simp only [setI_f (show (39 : Nat) ≠ 47 by decide), setI_f (show (40 : Nat) ≠ 47 by decide), setI_f (show (40 : Nat) ≠ 55 by decide), setI_f (show (41 : Nat) ≠ 47 by decide), setI_f (show (41 : Nat) ≠ 55 by decide), setI_f (show (41 : Nat) ≠ 57 by decide), setI_f (show (42 : Nat) ≠ 47 by decide), setI_f (show (42 : Nat) ≠ 55 by decide), setI_f (show (42 : Nat) ≠ 57 by decide), setI_f (show (42 : Nat) ≠ 58 by decide), v39, v40, v41, v42]
  rw [← e67]
  have hd2 : (setI (setI (setI (setI (setI τ 47 s (Int32.ofNat g)) 55 s (H.1 2)) 57 s (H.1 3)) 58 s (H.1 4)) 67 s (H.1 1 - 20)).2 = τ.2 := rfl
  have hd67 : (setI (setI (setI (setI (setI τ 47 s (Int32.ofNat g)) 55 s (H.1 2)) 57 s (H.1 3)) 58 s (H.1 4)) 67 s (H.1 1 - 20)).1 67 s = H.1 1 - 20 := setI_e
  generalize setI (setI (setI (setI (setI τ 47 s (Int32.ofNat g)) 55 s (H.1 2)) 57 s (H.1 3)) 58 s (H.1 4)) 67 s (H.1 1 - 20) = τ0 at fin hd2 hd67 ⊢
  have loop : ∀ n j (τ1 : RS), (aEnc H.2.2).length + 1 ≤ j + n → j ≤ (aEnc H.2.2).length → (∀ f i, ¬ (f = 66 ∧ i / 14000 = s) → τ1.1 f i = τ0.1 f i) → τ1.2 = τ0.2 → (∀ i, i < j → τ1.1 66 (14000 * s + i) = (aEnc H.2.2).getD i 0) → WP (m_recover_b379 F K220 n τ1 (Int32.ofNat s) (Int32.ofNat g) (Int32.ofNat (2 * (16 * s + g))) (Int32.ofNat j)) Q := by
    intro n
    induction n with
    | zero => intro j τ1 y1 y2; omega
    | succ n ih =>
      intro j τ1 y1 y2 y3 y4 y5
      unfold m_recover_b379
      refine WP_ld rfl 7 (by decide +kernel) hs ?_
      rw [y3 67 s (by omega), hd67, e67]
      refine WP_if (i_gei (by omega) (by omega)) (fun q => ?_) (fun q => ?_)
      · have : j = (aEnc H.2.2).length := by omega
        subst this
        unfold m_recover_b425
        rw [i_s]
        refine fin τ1 y3 (y4.trans hd2) ⟨hw, Or.inr ⟨e67, hl, y5⟩⟩
      · rw [show (14000 : Int32) * Int32.ofNat (2 * (16 * s + g)) + 20 + Int32.ofNat j = Int32.ofNat (14000 * (2 * (16 * s + g)) + (20 + j)) by
          rw [show (14000 : Int32) = Int32.ofNat 14000 from rfl, show (20 : Int32) = Int32.ofNat 20 from rfl, i_ma, i_ad, Nat.add_assoc]]
        refine WP_eq (m_onDisk_n (by omega)) ?_
        rw [show (14000 : Int32) * Int32.ofNat s + Int32.ofNat j = Int32.ofNat (14000 * s + j) from i_ma (c := 14000)]
        refine WP_st rfl 98000 (by decide +kernel) (by omega) ?_
        have e36 : τ1.2 36 = τ.2 36 := by rw [y4, hd2]
        have eb : (rB (τ1.2 36) (14000 * (2 * (16 * s + g)) + (20 + j))).toInt8.toInt32 = (aEnc H.2.2).getD j 0 := by
          have : (dB τ1 (2 * (16 * s + g)) (20 + j)).toInt8.toInt32 = dB τ1 (2 * (16 * s + g)) (20 + j) := dB_8
          refine this.trans ?_
          show rB (τ1.2 36) _ = _
          rw [e36]
          exact hat j (by omega)
        rw [eb, i_s]
        refine ih (j + 1) _ (by omega) (by omega) (fun f i q2 => ?_) y4 (fun i hi => ?_)
        · rw [setI_no (fun z => q2 ⟨z.1, by omega⟩)]
          exact y3 f i q2
        · by_cases q3 : i = j
          · rw [q3, setI_e]
          · rw [setI_i (by omega)]
            exact y5 i (by omega)
  exact loop F 0 τ0 (by omega) (Nat.zero_le _) (fun _ _ _ => rfl) rfl (fun i hi => absurd hi (Nat.not_lt_zero _))
/-- what the snapshots leave -/
def shM (a : AA) (s : Nat) (x : Int32) : AM := if x < 0 then ([], []) else (aFc a s x.toNatClampNeg).2.2
def ShE (a : AA) (s : Nat) (d x : Int32) (τ τ' : RS) : Prop := (∀ f i, ¬ (f = 66 ∧ i / 14000 = s) → ¬ ((f = 47 ∨ f = 55 ∨ f = 57 ∨ f = 58 ∨ f = 67) ∧ i = s) → τ'.1 f i = τ.1 f i) ∧ τ'.2 = τ.2 ∧ τ'.1 47 s = x ∧
  τ'.1 55 s = (if x < 0 then 0 else (aFc a s x.toNatClampNeg).1 2) ∧ τ'.1 57 s = (if x < 0 then 0 else (aFc a s x.toNatClampNeg).1 3) ∧ τ'.1 58 s = (if x < 0 then d else (aFc a s x.toNatClampNeg).1 4) ∧ τ'.1 67 s = (if x < 0 then 0 else (aFc a s x.toNatClampNeg).1 1 - 20) ∧ RSh τ' s (if x < 0 then 0 else (aFc a s x.toNatClampNeg).1 1 - 20) (shM a s x)
theorem ShE_take {a : AA} {s g : Nat} {d x : Int32} {τ τ1 τ' : RS} (hg : g < 16) (h0 : ShE a s d x τ τ1) (m1 : ∀ f i, ¬ (f = 66 ∧ i / 14000 = s) → τ'.1 f i = (setI (setI (setI (setI (setI τ1 47 s (Int32.ofNat g)) 55 s ((aFc a s g).1 2)) 57 s ((aFc a s g).1 3)) 58 s ((aFc a s g).1 4)) 67 s ((aFc a s g).1 1 - 20)).1 f i) (m2 : τ'.2 = τ1.2) (m3 : RSh τ' s ((aFc a s g).1 1 - 20) (aFc a s g).2.2) : ShE a s d (Int32.ofNat g) τ τ' := by
  have ng : ¬ Int32.ofNat g < 0 := i_nn (by omega)
  have eg : (Int32.ofNat g).toNatClampNeg = g := i_cl (by omega)
  unfold ShE shM
  rw [if_neg ng, if_neg ng, if_neg ng, if_neg ng, if_neg ng, eg]
  refine ⟨fun f i q1 q2 => ?_, m2.trans h0.2.1, ?_, ?_, ?_, ?_, ?_, m3⟩
  · rw [m1 f i q1, setI_no (fun z => q2 ⟨by omega, z.2⟩), setI_no (fun z => q2 ⟨by omega, z.2⟩), setI_no (fun z => q2 ⟨by omega, z.2⟩), setI_no (fun z => q2 ⟨by omega, z.2⟩), setI_no (fun z => q2 ⟨by omega, z.2⟩)]
    exact h0.1 f i q1 q2
  · rw [m1 47 s (by omega), setI_f (by decide), setI_f (by decide), setI_f (by decide), setI_f (by decide), setI_e]
  · rw [m1 55 s (by omega), setI_f (by decide), setI_f (by decide), setI_f (by decide), setI_e]
  · rw [m1 57 s (by omega), setI_f (by decide), setI_f (by decide), setI_e]
  · rw [m1 58 s (by omega), setI_f (by decide), setI_e]
  · rw [m1 67 s (by omega), setI_e]
