/-! keys in order -/
theorem b255 {v : Int32} : 0 ≤ (v &&& 255).toInt ∧ (v &&& 255).toInt ≤ 255 := by
  have h : (v &&& 255).toBitVec.toNat ≤ 255 := by
    rw [Int32.toBitVec_and, BitVec.toNat_and]
    exact Nat.and_le_right
  have e : (v &&& 255).toInt = ((v &&& 255).toBitVec.toNat : Int) := BitVec.toInt_eq_toNat_of_lt (by omega)
  omega
def kLt : List Int32 → List Int32 → Prop
  | [], [] => False
  | [], _ :: _ => True
  | _ :: _, [] => False
  | x :: r, y :: q => (x &&& 255).toInt < (y &&& 255).toInt ∨ (x &&& 255 = y &&& 255 ∧ kLt r q)
theorem cmp_lt : ∀ x y : List Int32, x.length ≤ 1000 → y.length ≤ 1000 → (aCmp x y < 0 ↔ kLt x y) := by
  intro x
  induction x with
  | nil =>
    intro y _ hy
    cases y with
    | nil => exact ⟨fun z => absurd z (by decide), fun z => z.elim⟩
    | cons b q =>
      refine ⟨fun _ => True.intro, fun _ => ?_⟩
      show 0 - Int32.ofNat (q.length + 1) < 0
      rw [List.length_cons] at hy
      have e : (Int32.ofNat (q.length + 1)).toInt = ((q.length + 1 : Nat) : Int) := Int32.toInt_ofNat_of_lt (by omega)
      rw [Int32.lt_iff_toInt_lt, i_subI (by rw [i_0, e]; omega) (by rw [i_0, e]; omega), i_0, e]
      omega
  | cons a r ih =>
    intro y hx hy
    cases y with
    | nil =>
      rw [List.length_cons] at hx
      refine ⟨fun z => ?_, fun z => z.elim⟩
      have z : Int32.ofNat (r.length + 1) < 0 := z
      exact absurd z (i_nn (by omega))
    | cons b q =>
      rw [List.length_cons] at hx hy
      have e : aCmp (a :: r) (b :: q) = if (a &&& 255) - (b &&& 255) = 0 then aCmp r q else (a &&& 255) - (b &&& 255) := rfl
      have a1 := @b255 a
      have b1 := @b255 b
      rw [e]
      by_cases z : (a &&& 255) - (b &&& 255) = 0
      · rw [if_pos z, ih q (by omega) (by omega)]
        have z' := i_sub0.mp z
        exact ⟨fun k => Or.inr ⟨z', k⟩, fun k => k.elim (fun k => by rw [z'] at k; omega) (fun k => k.2)⟩
      · rw [if_neg z, Int32.lt_iff_toInt_lt, i_subI (by omega) (by omega), i_0]
        exact ⟨fun k => Or.inl (by omega), fun k => k.elim (fun k => by omega) (fun k => absurd (i_sub0.mpr k.1) z)⟩
theorem kLt_trans : ∀ x y z : List Int32, kLt x y → kLt y z → kLt x z := by
  intro x
  induction x with
  | nil =>
    intro y z h1 h2
    cases y with
    | nil => exact h1.elim
    | cons b q =>
      cases z with
      | nil => exact h2.elim
      | cons d w => exact True.intro
  | cons a r ih =>
    intro y z h1 h2
    cases y with
    | nil => exact h1.elim
    | cons b q =>
      cases z with
      | nil => exact h2.elim
      | cons d w =>
        have h1 : (a &&& 255).toInt < (b &&& 255).toInt ∨ (a &&& 255 = b &&& 255 ∧ kLt r q) := h1
        have h2 : (b &&& 255).toInt < (d &&& 255).toInt ∨ (b &&& 255 = d &&& 255 ∧ kLt q w) := h2
        show (a &&& 255).toInt < (d &&& 255).toInt ∨ (a &&& 255 = d &&& 255 ∧ kLt r w)
        rcases h1 with h1 | ⟨e1, h1⟩
        · rcases h2 with h2 | ⟨e2, h2⟩
          · exact Or.inl (by omega)
          · rw [← e2]
            exact Or.inl h1
        · rw [e1]
          rcases h2 with h2 | ⟨e2, h2⟩
          · exact Or.inl h2
          · exact Or.inr ⟨e2, ih q w h1 h2⟩
theorem kLt_tri : ∀ x y : List Int32, x.length ≤ 1000 → y.length ≤ 1000 → ¬ kLt x y → ¬ aCmp x y = 0 → kLt y x := by
  intro x
  induction x with
  | nil =>
    intro y _ _ h1 h2
    cases y with
    | nil => exact absurd (show aCmp [] [] = 0 by decide) h2
    | cons b q => exact absurd True.intro h1
  | cons a r ih =>
    intro y hx hy h1 h2
    cases y with
    | nil => exact True.intro
    | cons b q =>
      rw [List.length_cons] at hx hy
      have e : aCmp (a :: r) (b :: q) = if (a &&& 255) - (b &&& 255) = 0 then aCmp r q else (a &&& 255) - (b &&& 255) := rfl
      have h1 : ¬ ((a &&& 255).toInt < (b &&& 255).toInt ∨ (a &&& 255 = b &&& 255 ∧ kLt r q)) := h1
      show (b &&& 255).toInt < (a &&& 255).toInt ∨ (b &&& 255 = a &&& 255 ∧ kLt q r)
      rw [e] at h2
      by_cases z : (a &&& 255) - (b &&& 255) = 0
      · rw [if_pos z] at h2
        have z' := i_sub0.mp z
        exact Or.inr ⟨z'.symm, ih q (by omega) (by omega) (fun k => h1 (Or.inr ⟨z', k⟩)) h2⟩
      · refine Or.inl ?_
        have n1 : ¬ (a &&& 255).toInt < (b &&& 255).toInt := fun k => h1 (Or.inl k)
        have n2 : (a &&& 255).toInt ≠ (b &&& 255).toInt := fun k => z (i_sub0.mpr (Int32.toInt_inj.mp k))
        omega
/-- the keys of a machine are in order -/
def srtM (M : AM) : Prop := (M.2.map (fun e => e.1)).Pairwise kLt
theorem key_len {M : AM} {i : Nat} (w : wfM M) (hi : i < M.2.length) : (M.2.getD i ([], [])).1.length ≤ 32 := by
  have hm : M.2.getD i ([], []) ∈ M.2 := by
    rw [List.getD_eq_getElem?_getD, List.getElem?_eq_getElem hi]
    exact List.getElem_mem _
  exact (w.2.2.2 _ hm).1
theorem srt_lt {M : AM} {i j : Nat} (h : srtM M) (hij : i < j) (hj : j < M.2.length) : kLt (M.2.getD i ([], [])).1 (M.2.getD j ([], [])).1 := by
  unfold srtM at h
  rw [List.pairwise_map] at h
  have := List.pairwise_iff_getElem.mp h i j (by omega) hj hij
  rw [List.getD_eq_getElem?_getD, List.getD_eq_getElem?_getD, List.getElem?_eq_getElem (by omega), List.getElem?_eq_getElem hj]
  exact this
theorem kMono_of {M : AM} {k : List Int32} (h : srtM M) (w : wfM M) (hk : k.length ≤ 1000) : kMono M k := by
  intro i j hij hj hc
  by_cases q : i = j
  · rw [q]
    exact hc
  · have l1 := key_len w (show i < M.2.length by omega)
    have l2 := key_len w hj
    rw [cmp_lt _ _ (by omega) hk] at hc ⊢
    exact kLt_trans _ _ _ (srt_lt h (by omega) hj) hc
/-- all from the rank on, but the key itself, come behind the key -/
theorem rank_hi {M : AM} {k : List Int32} {j : Nat} (h : srtM M) (w : wfM M) (hk : k.length ≤ 1000) (hj : aRank M k ≤ j) (hl : j < M.2.length) (hne : ¬ aCmp (M.2.getD (aRank M k) ([], [])).1 k = 0) : kLt k (M.2.getD j ([], [])).1 := by
  obtain ⟨_, t2⟩ := tw_spec (p := fun e : List Int32 × List Int32 => decide (aCmp e.1 k < 0)) M.2
  have hr : aRank M k < M.2.length := by omega
  have e := List.getElem?_eq_getElem hr
  have n0 : ¬ aCmp (M.2.getD (aRank M k) ([], [])).1 k < 0 := by
    rw [List.getD_eq_getElem?_getD, e]
    exact of_decide_eq_false (t2 _ e)
  have l1 := key_len w hr
  rw [cmp_lt _ _ (by omega) hk] at n0
  have g := kLt_tri _ _ (by omega) hk n0 hne
  by_cases q : aRank M k = j
  · rw [← q]
    exact g
  · exact kLt_trans _ _ _ g (srt_lt h (by omega) hl)
theorem rank_lo {M : AM} {k : List Int32} {i : Nat} (w : wfM M) (hk : k.length ≤ 1000) (hi : i < aRank M k) : kLt (M.2.getD i ([], [])).1 k := by
  obtain ⟨t1, _⟩ := tw_spec (p := fun e : List Int32 × List Int32 => decide (aCmp e.1 k < 0)) M.2
  have hl : i < M.2.length := Nat.lt_of_lt_of_le hi aRank_le
  have e := List.getElem?_eq_getElem hl
  have l1 := key_len w hl
  rw [← cmp_lt _ _ (by omega) hk, List.getD_eq_getElem?_getD, e]
  exact of_decide_eq_true (t1 i _ hi e)
