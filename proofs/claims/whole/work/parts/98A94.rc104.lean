/-! coming up, what an owner asks for -/
section FC3
variable {t B B' c d k s : Nat} {a b : AA} {P : AL → Prop}
theorem later_r {x y : Nat} {n : Int32} : aLater a s x y n = Int32.ofNat x ∨ aLater a s x y n = Int32.ofNat y ∨ aLater a s x y n = -1 := by
  unfold aLater
  split
  · split
    · exact Or.inr (Or.inl rfl)
    · exact Or.inl rfl
  · split
    · exact Or.inr (Or.inl rfl)
    · exact Or.inr (Or.inr rfl)
theorem Pa_recA3 : Pa s P 0 a (recA3 a s) := by
  have h45 : aLater a s 0 1 32 = -1 ∨ aLater a s 0 1 32 = 0 ∨ aLater a s 0 1 32 = 1 := by
    rcases later_r (a := a) (s := s) (x := 0) (y := 1) (n := 32) with z | z | z
    · exact Or.inr (Or.inl z)
    · exact Or.inr (Or.inr z)
    · exact Or.inl z
  unfold recA3
  dsimp only
  exact Pa_0 (Pa_n (by decide) (Pa_n (by decide) (Pa_n (by decide) (Pa_n (by decide) (Pa_n (by decide) (Pa_n (by decide) (Pa_n (by decide) (Pa_n45 h45 Pa.nil)))))))) Pa.sh
theorem segs_16 : ∀ f ∈ aSegs, f < 16 := by decide
theorem fseg_m {x : Int32} : ∀ (l : List Nat) (f : Nat), aFirstSeg a s x l = some f → f ∈ l := by
  intro l
  induction l with
  | nil =>
    intro f h
    cases h
  | cons g r ih =>
    intro f h
    unfold aFirstSeg at h
    dsimp only at h
    cases e : aFirstSeg a s x r with
    | none =>
      rw [e] at h
      dsimp only at h
      split at h
      · rw [← Option.some.inj h]
        exact List.mem_cons_self
      · cases h
    | some j =>
      rw [e] at h
      dsimp only at h
      split at h
      · rw [← Option.some.inj h]
        exact List.mem_cons_self
      · rw [← Option.some.inj h]
        exact List.mem_cons_of_mem _ (ih j e)
theorem chain_16 : ∀ (n f : Nat), f < 16 → ∀ g ∈ aChain a s n f, g < 16 := by
  intro n
  induction n with
  | zero => exact fun f _ g hg => absurd hg List.not_mem_nil
  | succ n ih =>
    intro f hf g hg
    unfold aChain at hg
    dsimp only at hg
    rcases List.mem_cons.mp hg with z | z
    · rw [z]
      exact hf
    · cases e1 : (aWhole (aFc a s f)).getLast? with
      | none =>
        rw [e1] at z
        exact absurd z List.not_mem_nil
      | some y =>
        rw [e1] at z
        dsimp only at z
        cases e2 : aSegAt a s ((aFc a s f).1 2 + Int32.ofNat (aWhole (aFc a s f)).length) y.1 with
        | none =>
          rw [e2] at z
          exact absurd z List.not_mem_nil
        | some j =>
          rw [e2] at z
          exact ih j (segs_16 j (List.mem_of_find?_eq_some e2)) g z
theorem recC_16 {x T : Int32} : ∀ f ∈ recC a s x T, f < 16 := by
  intro f hf
  unfold recC at hf
  cases e : aFirstSeg a s x aSegs with
  | none =>
    rw [e] at hf
    exact absurd hf List.not_mem_nil
  | some g =>
    rw [e] at hf
    dsimp only at hf
    split at hf
    · exact chain_16 12 g (segs_16 g (fseg_m _ _ e)) f hf
    · exact absurd hf List.not_mem_nil
theorem Pa_tidy {v : List Nat} : ∀ l : List Nat, (∀ f ∈ l, f < 16) → Pa s P 0 a (aTidy a s v l) := by
  intro l
  induction l with
  | nil => exact fun _ => Pa.nil
  | cons f r ih =>
    intro h
    have h1 := ih (fun g hg => h g (List.mem_cons_of_mem _ hg))
    unfold aTidy
    dsimp only
    exact Pa_if (fun _ => Pa_0 h1 Pa_put) (fun _ => Pa_0 h1 (Pa_remove (h f List.mem_cons_self)))
theorem Pa_recA4 : Pa s P 0 a (recA4 a s) := by
  unfold recA4
  have h := recC_16 (a := a) (s := s) (x := aS a 55 s) (T := aS a 57 s)
  generalize recC a s (aS a 55 s) (aS a 57 s) = v at h ⊢
  exact Pa_n (by decide) (Pa_0 (Pa_0 (Pa_tidy _ segs_16) (Pa.ch h)) Pa.lg)
theorem recA3_31 {n : Nat} : aS (recA3 a s) 31 n = aS a 31 n := by
  unfold recA3
  dsimp only
  show aS (aI (aI (aI (aI (aI (aI (aI (aI a 45 s _) 47 s _) 53 s _) 54 s _) 55 s _) 57 s _) 58 s _) 67 s _) 31 n = _
  rw [aS_If (by decide), aS_If (by decide), aS_If (by decide), aS_If (by decide), aS_If (by decide), aS_If (by decide), aS_If (by decide), aS_If (by decide)]
theorem recA4_31 {n : Nat} : aS (recA4 a s) 31 n = aS a 31 n := by
  unfold recA4
  generalize recC a s (aS a 55 s) (aS a 57 s) = v
  rw [aS_If (by decide)]
  exact tidy_S (by decide) aSegs
theorem laySlot_31 {n : Nat} : aS (aLaySlot a s) 31 n = aS a 31 n := AFr_laySlot.1 31 (by decide) n
theorem Pa_recover (h : Ph s P a) (h31 : aS a 31 s < 0) : Pa s P 1 a (A_recover a s) := by
  have e : A_recover a s = aFindCode (A_syncAll (if aS (aI (recA4 (recA3 a s) s) 46 s 0) 53 s < aLastTerm (recA4 (recA3 a s) s) s then aLaySlot (aI (aI (aI (recA4 (recA3 a s) s) 46 s 0) 53 s (aLastTerm (recA4 (recA3 a s) s) s)) 54 s (-1)) s else aI (recA4 (recA3 a s) s) 46 s 0) s) s := rfl
  rw [e]
  have p1 : Pa s P 0 a (recA4 (recA3 a s) s) := Pa_0 Pa_recA3 Pa_recA4
  have e1 : aS (recA4 (recA3 a s) s) 31 s = aS a 31 s := recA4_31.trans recA3_31
  generalize recA4 (recA3 a s) s = b at p1 e1 ⊢
  have p2 : Pa s P 0 a (aI b 46 s 0) := Pa_n (by decide) p1
  have p3 : Pa s P 0 a (aI (aI (aI b 46 s 0) 53 s (aLastTerm b s)) 54 s (-1)) := Pa_n (by decide) (Pa_n (by decide) p2)
  have p4 : Pa s P 0 a (if aS (aI b 46 s 0) 53 s < aLastTerm b s then aLaySlot (aI (aI (aI b 46 s 0) 53 s (aLastTerm b s)) 54 s (-1)) s else aI b 46 s 0) := Pa_if (fun _ => Pa_0 p3 (Pa_laySlot (Pa_H p3 h))) (fun _ => p2)
  have e4 : aS (if aS (aI b 46 s 0) 53 s < aLastTerm b s then aLaySlot (aI (aI (aI b 46 s 0) 53 s (aLastTerm b s)) 54 s (-1)) s else aI b 46 s 0) 31 s = aS a 31 s := by
    split
    · rw [laySlot_31, aS_If (by decide), aS_If (by decide), aS_If (by decide), e1]
    · rw [aS_If (by decide), e1]
  generalize (if aS (aI b 46 s 0) 53 s < aLastTerm b s then aLaySlot (aI (aI (aI b 46 s 0) 53 s (aLastTerm b s)) 54 s (-1)) s else aI b 46 s 0) = b2 at p4 e4 ⊢
  exact Pa_0 (Pa.cat p4 (Pa_syncAll (by rw [e4]; exact h31))) Pa_findCode
theorem Pa_stA : Pa s P 0 a (stA a s) := by
  unfold stA
  dsimp only
  exact Pa_n (by decide) (Pa_n80 (by decide) (Pa_n (by decide) (Pa_n (by decide) (Pa_n (by decide) (Pa_0 (Pa_n (by decide) (Pa_n (by decide) (Pa_n74 (by decide) (Pa_nn (by decide))))) Pa.mc)))))
/-- a server comes up; hd: of one that is down no sync is awaited -/
theorem EW_start {x : Int32} (h : Ev t B c d a) (w : Wd a) (hd : ∀ i, i < 7 → aS a 52 i = 0 → aS a 31 i < 0) (hc : c + 2 + 200 < 2147483648) : Ev t B (c + 2) d (A_start a x).1 ∧ Wd (A_start a x).1 := by
  have up : Ev t B (c + 2) d a := Ev_w (Nat.le_add_right _ _) hc (Nat.le_refl _) h
  unfold A_start
  by_cases q1 : (!aInR x 0 6) = true
  · rw [if_pos q1]
    exact ⟨up, w⟩
  · rw [if_neg q1]
    dsimp only
    by_cases q2 : ¬ aS a 52 x.toNatClampNeg = 0
    · rw [if_pos q2]
      exact ⟨up, w⟩
    · rw [if_neg q2]
      have hx := inR_k q1
      rw [i_0, L_6] at hx
      have hs : x.toNatClampNeg < 7 := by
        show x.toInt.toNat < 7
        omega
      have h31 := hd _ hs (Decidable.byContradiction q2)
      generalize x.toNatClampNeg = i at hs h31 ⊢
      show Ev t B (c + 2) d (A_drawAlarm (stA (A_recover (aI a 52 i 1) i) i) i) ∧ Wd (A_drawAlarm (stA (A_recover (aI a 52 i 1) i) i) i)
      have h1 : Ev t B c d (aI a 52 i 1) := Ev_nn (by decide) h
      have w1 : Wd (aI a 52 i 1) := Wd_nn (by decide) w
      have p := Pa_d (Pa_0 (Pa_recover (P := sL i) (w1.1 i hs) (by rw [aS_If (by decide)]; exact h31)) Pa_stA)
      exact ⟨Pa_Ev hs p hc h1, Wd_Pa hs p w1⟩
theorem EW_code {i : Nat} {cc : Int32} (h : Ev t B c d a) (w : Wd a) (hs : i < 7) : Ev t B c d (A_sendAll (A_appendCode a i cc) i false) ∧ Wd (A_sendAll (A_appendCode a i cc) i false) := by
  have p : Pa i (sL i) 0 a (A_sendAll (A_appendCode a i cc) i false) := Pa_0 (Pa_appendCode (w.1 i hs)) Pa_sendAll
  exact ⟨Pa_Ev hs p h.1.2.2.2 h, Wd_Pa hs p w⟩
theorem tn_7 {x : Int32} (q : ¬ (!aInR x 0 6) = true) : x.toNatClampNeg < 7 := by
  have hx := inR_k q
  rw [i_0, L_6] at hx
  show x.toInt.toNat < 7
  omega
theorem EW_members {x m : Int32} (h : Ev t B c d a) (w : Wd a) : Ev t B c d (A_members a x m).1 ∧ Wd (A_members a x m).1 := by
  unfold A_members
  by_cases q1 : (!aInR x 0 6) = true
  · rw [if_pos q1]
    exact ⟨h, w⟩
  · rw [if_neg q1]
    dsimp only
    split
    · exact EW_code h w (tn_7 q1)
    · exact ⟨h, w⟩
theorem EW_learners {x m : Int32} (h : Ev t B c d a) (w : Wd a) : Ev t B c d (A_learners a x m).1 ∧ Wd (A_learners a x m).1 := by
  unfold A_learners
  by_cases q1 : (!aInR x 0 6) = true
  · rw [if_pos q1]
    exact ⟨h, w⟩
  · rw [if_neg q1]
    dsimp only
    split
    · exact EW_code h w (tn_7 q1)
    · exact ⟨h, w⟩
theorem EW_hand {x y : Int32} (h : Ev t B c d a) (w : Wd a) : Ev t B c d (A_hand a x y).1 ∧ Wd (A_hand a x y).1 := by
  unfold A_hand
  by_cases q1 : (!aInR x 0 6) = true
  · rw [if_pos q1]
    exact ⟨h, w⟩
  · rw [if_neg q1]
    have hs := tn_7 q1
    generalize x.toNatClampNeg = i at hs ⊢
    dsimp only
    split
    · rename_i q2
      have hy : aInR y 0 6 = true := by
        rw [Bool.and_eq_true_iff, Bool.and_eq_true_iff, Bool.and_eq_true_iff] at q2
        exact q2.1.1.2
      have p0 : Pa i (sL i) 0 a (aI (aI a 80 i y) 81 i (aNow a)) := Pa_n (by decide) (Pa_n80 (inR_1 hy) Pa.nil)
      have p : ∀ (q : Prop) [Decidable q], Pa i (sL i) 0 a (if q then A_tell (aI (aI a 80 i y) 81 i (aNow a)) i y 9 0 0 0 0 else A_send (aI (aI a 80 i y) 81 i (aNow a)) i y.toNatClampNeg false) := fun q _ => Pa_if (fun _ => Pa_0 p0 (Pa_tell hy (by decide))) (fun _ => Pa_0 p0 (Pa_send (inR_lt hy)))
      exact ⟨Pa_Ev hs (p _) h.1.2.2.2 h, Wd_Pa hs (p _) w⟩
    · exact ⟨h, w⟩
end FC3
