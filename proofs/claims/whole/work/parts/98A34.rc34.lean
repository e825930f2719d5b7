/-! the machine: keys compared, looked for -/
theorem tw_spec {α : Type} {p : α → Bool} : ∀ l : List α, (∀ i x, i < (l.takeWhile p).length → l[i]? = some x → p x = true) ∧ ∀ x, l[(l.takeWhile p).length]? = some x → p x = false := by
  intro l
  induction l with
  | nil => exact ⟨fun i x h => absurd h (Nat.not_lt_zero _), fun x h => by cases h⟩
  | cons y r ih =>
    by_cases q : p y = true
    · rw [List.takeWhile_cons, if_pos q]
      refine ⟨fun i x h e => ?_, fun x e => ?_⟩
      · cases i with
        | zero =>
          have : y = x := Option.some.inj e
          rw [← this]
          exact q
        | succ i => exact ih.1 i x (by rw [List.length_cons] at h; omega) e
      · exact ih.2 x e
    · rw [List.takeWhile_cons, if_neg q]
      refine ⟨fun i x h => absurd h (Nat.not_lt_zero _), fun x e => ?_⟩
      have : y = x := Option.some.inj e
      rw [← this]
      simpa using q
theorem K_cmp {F : Nat} {c : CS} {s q o : Nat} {k1 k2 : List Int32} (hF : 40 ≤ F) (hq : q < 128) (h1 : k1.length ≤ 32) (e7 : cI c 10 s 7 q = Int32.ofNat k1.length) (e9 : ∀ j, j < k1.length → cI c 10 s 9 (132 * q + j) = k1.getD j 0) (h2 : k2.length ≤ 1000) (ho : o + k2.length ≤ cL c 4 0 3) (ho2 : o + k2.length < 2147483648) (e3 : ∀ j, j < k2.length → cI c 4 0 3 (o + j) = k2.getD j 0) : k_Machine_compare F c s (Int32.ofNat q) (Int32.ofNat o) (Int32.ofNat k2.length) = some (aCmp k1 k2) := by
  unfold k_Machine_compare k_Machine_compare_b0
  rw [crd_n rfl (show q < 128 from hq) (by omega), e7]
  have key : ∀ n i, k1.length + 1 ≤ i + n → i ≤ k1.length → i ≤ k2.length → k_Machine_compare_b11 F n c s (Int32.ofNat q) (Int32.ofNat o) (Int32.ofNat k2.length) (Int32.ofNat k1.length) (Int32.ofNat i) = some (aCmp (k1.drop i) (k2.drop i)) := by
    intro n
    induction n with
    | zero => intro i g1 g2; omega
    | succ n ih =>
      intro i g1 g2 g3
      unfold k_Machine_compare_b11
      dsimp only
      unfold k_Machine_compare_b74
      by_cases z1 : i = k1.length
      · rw [if_pos ((i_gei (by omega) (by omega)).mpr (by omega)), z1, List.drop_length]
        show some (Int32.ofNat k1.length - Int32.ofNat k2.length) = some (0 - Int32.ofNat (k2.drop k1.length).length)
        rw [List.length_drop, i_subr (by omega)]
      · rw [if_neg (fun y => by have := (i_gei (by omega) (by omega)).mp y; omega)]
        have d1 : k1.drop i = k1[i] :: k1.drop (i + 1) := List.drop_eq_getElem_cons (by omega)
        by_cases z2 : i = k2.length
        · rw [if_pos ((i_gei (by omega) (by omega)).mpr (by omega)), z2, List.drop_length, ← z2, d1]
          show some (Int32.ofNat k1.length - Int32.ofNat i) = some (Int32.ofNat ((k1.drop (i + 1)).length + 1))
          rw [List.length_drop, i_subn (by omega)]
          congr 2
          omega
        · rw [if_neg (fun y => by have := (i_gei (by omega) (by omega)).mp y; omega)]
          have d2 : k2.drop i = k2[i] :: k2.drop (i + 1) := List.drop_eq_getElem_cons (by omega)
          have x1 : k1.getD i 0 = k1[i] := by rw [List.getD_eq_getElem?_getD, List.getElem?_eq_getElem (by omega)]; rfl
          have x2 : k2.getD i 0 = k2[i] := by rw [List.getD_eq_getElem?_getD, List.getElem?_eq_getElem (by omega)]; rfl
          have p1 : Int32.ofNat q * 132 + Int32.ofNat i = Int32.ofNat (132 * q + i) := by
            rw [show (132 : Int32) = Int32.ofNat 132 from rfl, i_mc, i_ad, Nat.mul_comm]
          have p2 : Int32.ofNat o + Int32.ofNat i = Int32.ofNat (o + i) := i_ad
          rw [p1, p2, crd_n rfl (show 132 * q + i < 16896 by omega) (by omega), crd_n rfl (show o + i < cL c 4 0 3 by omega) (by omega), e9 i (by omega), e3 i (by omega), x1, x2, d1, d2]
          show (if xc0 .eq ((k1[i] &&& 255) - (k2[i] &&& 255)) = true then k_Machine_compare_b11 F n c s (Int32.ofNat q) (Int32.ofNat o) (Int32.ofNat k2.length) (Int32.ofNat k1.length) (Int32.ofNat i + 1) else some ((k1[i] &&& 255) - (k2[i] &&& 255))) = some (if (k1[i] &&& 255) - (k2[i] &&& 255) = 0 then aCmp (k1.drop (i + 1)) (k2.drop (i + 1)) else (k1[i] &&& 255) - (k2[i] &&& 255))
          by_cases z3 : (k1[i] &&& 255) - (k2[i] &&& 255) = 0
          · rw [if_pos (c0_eq.mpr z3), if_pos z3, i_s]
            exact ih (i + 1) (by omega) (by omega) (by omega)
          · rw [if_neg (fun y => z3 (c0_eq.mp y)), if_neg z3]
  exact key F 0 (by omega) (Nat.zero_le _) (Nat.zero_le _)
/-- the keys are in order, as far as one key sees it -/
def kMono (M : AM) (k : List Int32) : Prop := ∀ i j, i ≤ j → j < M.2.length → aCmp (M.2.getD j ([], [])).1 k < 0 → aCmp (M.2.getD i ([], [])).1 k < 0
/-- a stretch of the askings' bytes -/
def kAt (c : CS) (o : Nat) (k : List Int32) : Prop := k.length ≤ 1000 ∧ o + k.length ≤ cL c 4 0 3 ∧ o + k.length < 2147483648 ∧ ∀ j, j < k.length → cI c 4 0 3 (o + j) = k.getD j 0
theorem K_cmpAt {F : Nat} {c : CS} {s o i : Nat} {M : AM} {k : List Int32} (hF : 40 ≤ F) (h : KM0 c s M) (w : wfM M) (hi : i < M.2.length) (hk : kAt c o k) : ∃ q, q < 128 ∧ crd c 10 s 6 (Int32.ofNat i) = some (Int32.ofNat q) ∧ k_Machine_compare F c s (Int32.ofNat q) (Int32.ofNat o) (Int32.ofNat k.length) = some (aCmp (M.2.getD i ([], [])).1 k) := by
  obtain ⟨_, _, _, _, sl, s1, s2, s3, s4, s5⟩ := h
  obtain ⟨e7, e8, e9, _⟩ := s5 i hi
  have h128 : M.2.length ≤ 128 := w.2.1
  have hq : sl.getD i 0 < 128 := by
    rw [List.getD_eq_getElem?_getD, List.getElem?_eq_getElem (by omega)]
    exact s3 _ (List.getElem_mem _)
  have hm : M.2.getD i ([], []) ∈ M.2 := by
    rw [List.getD_eq_getElem?_getD, List.getElem?_eq_getElem hi]
    exact List.getElem_mem _
  obtain ⟨k1, k2, k3, k4⟩ := hk
  refine ⟨sl.getD i 0, hq, ?_, K_cmp hF hq (w.2.2.2 _ hm).1 e7 e9 k1 k2 k3 k4⟩
  rw [crd_n rfl (show i < 128 by omega) (by omega), s4 i (by omega)]
theorem K_lower {F : Nat} {c : CS} {s o : Nat} {M : AM} {k : List Int32} (hF : 200 ≤ F) (h : KM0 c s M) (w : wfM M) (hk : kAt c o k) (hm : kMono M k) : k_Machine_lowerBound F c s (Int32.ofNat o) (Int32.ofNat k.length) = some (Int32.ofNat (aRank M k)) := by
  have h128 : M.2.length ≤ 128 := w.2.1
  have hr : aRank M k ≤ M.2.length := aRank_le
  obtain ⟨t1, t2⟩ := tw_spec (p := fun e : List Int32 × List Int32 => decide (aCmp e.1 k < 0)) M.2
  have lo : ∀ i, i < aRank M k → aCmp (M.2.getD i ([], [])).1 k < 0 := fun i hi => by
    have hl : i < M.2.length := by omega
    have e := List.getElem?_eq_getElem hl
    rw [List.getD_eq_getElem?_getD, e]
    exact of_decide_eq_true (t1 i _ hi e)
  have hi0 : aRank M k < M.2.length → ¬ aCmp (M.2.getD (aRank M k) ([], [])).1 k < 0 := fun hl => by
    have e := List.getElem?_eq_getElem hl
    rw [List.getD_eq_getElem?_getD, e]
    exact of_decide_eq_false (t2 _ e)
  unfold k_Machine_lowerBound k_Machine_lowerBound_b0
  rw [show cI c 10 s 4 0 = Int32.ofNat M.2.length from h.2.1]
  have key : ∀ n a b, b + 1 ≤ a + n → a ≤ aRank M k → aRank M k ≤ b → b ≤ M.2.length → k_Machine_lowerBound_b8 F n c s (Int32.ofNat o) (Int32.ofNat k.length) (Int32.ofNat a) (Int32.ofNat b) = some (Int32.ofNat (aRank M k)) := by
    intro n
    induction n with
    | zero => intro a b g1 g2 g3; omega
    | succ n ih =>
      intro a b g1 g2 g3 g4
      unfold k_Machine_lowerBound_b8
      dsimp only
      unfold k_Machine_lowerBound_b50
      by_cases z : b ≤ a
      · rw [if_pos ((i_gei (by omega) (by omega)).mpr z)]
        congr 2
        omega
      · rw [if_neg (fun y => z ((i_gei (by omega) (by omega)).mp y)), if_neg (by decide), i_ad, show (2 : Int32) = Int32.ofNat 2 from rfl, i_div (by omega) (by omega) (by omega)]
        have hmid : (a + b) / 2 < b ∧ a ≤ (a + b) / 2 := by omega
        generalize (a + b) / 2 = m at hmid
        obtain ⟨q, q1, q2, q3⟩ := K_cmpAt (F := F) (o := o) (i := m) (by omega) h w (by omega) hk
        rw [q2]
        show ((k_Machine_compare F c s (Int32.ofNat q) (Int32.ofNat o) (Int32.ofNat k.length)).bind fun p13 => if xc0 .ge p13 = true then k_Machine_lowerBound_b8 F n c s (Int32.ofNat o) (Int32.ofNat k.length) (Int32.ofNat a) (Int32.ofNat m) else k_Machine_lowerBound_b8 F n c s (Int32.ofNat o) (Int32.ofNat k.length) (Int32.ofNat m + 1) (Int32.ofNat b)) = _
        rw [q3]
        show (if xc0 .ge (aCmp (M.2.getD m ([], [])).1 k) = true then _ else _) = _
        by_cases y : 0 ≤ aCmp (M.2.getD m ([], [])).1 k
        · rw [if_pos (c0_ge.mpr y)]
          refine ih a m (by omega) g2 ?_ (by omega)
          exact Nat.le_of_not_lt (fun u => Int32.not_lt.mpr y (lo m u))
        · rw [if_neg (fun u => y (c0_ge.mp u)), i_s]
          refine ih (m + 1) b (by omega) ?_ g3 g4
          refine Nat.lt_of_not_le (fun u => ?_)
          exact hi0 (by omega) (hm _ m u (by omega) (Int32.not_le.mp y))
  exact key F 0 M.2.length (by omega) (Nat.zero_le _) hr (Nat.le_refl _)
theorem K_isKey {F : Nat} {c : CS} {s o i : Nat} {M : AM} {k : List Int32} (hF : 200 ≤ F) (h : KM0 c s M) (w : wfM M) (hk : kAt c o k) (hi : i ≤ 128) : k_Machine_isKey F c s (Int32.ofNat i) (Int32.ofNat o) (Int32.ofNat k.length) = some (aB (decide (i < M.2.length) && decide (aCmp (M.2.getD i ([], [])).1 k = 0))) := by
  have h128 : M.2.length ≤ 128 := w.2.1
  unfold k_Machine_isKey k_Machine_isKey_b0 k_Machine_isKey_b27 k_Machine_isKey_b28
  rw [show cI c 10 s 4 0 = Int32.ofNat M.2.length from h.2.1]
  by_cases z : M.2.length ≤ i
  · rw [if_pos ((i_gei (by omega) (by omega)).mpr z), if_pos (show (0 : Int32) = 0 ∨ (0 : Int32) = 1 from Or.inl rfl), decide_eq_false (by omega)]
    rfl
  · rw [if_neg (fun y => z ((i_gei (by omega) (by omega)).mp y)), decide_eq_true (by omega)]
    obtain ⟨q, q1, q2, q3⟩ := K_cmpAt (F := F) (o := o) (i := i) (by omega) h w (by omega) hk
    rw [q2]
    show ((k_Machine_compare F c s (Int32.ofNat q) (Int32.ofNat o) (Int32.ofNat k.length)).bind fun p5 => if xc0 .ne p5 = true then (if (0 : Int32) = 0 ∨ (0 : Int32) = 1 then some 0 else none) else (if (1 : Int32) = 0 ∨ (1 : Int32) = 1 then some 1 else none)) = _
    rw [q3]
    show (if xc0 .ne (aCmp (M.2.getD i ([], [])).1 k) = true then (if (0 : Int32) = 0 ∨ (0 : Int32) = 1 then some 0 else none) else (if (1 : Int32) = 0 ∨ (1 : Int32) = 1 then some 1 else none)) = _
    by_cases y : aCmp (M.2.getD i ([], [])).1 k = 0
    · rw [if_neg (fun u => c0_ne.mp u y), if_pos (show (1 : Int32) = 0 ∨ (1 : Int32) = 1 from Or.inr rfl), decide_eq_true y]
      rfl
    · rw [if_pos (c0_ne.mpr y), if_pos (show (0 : Int32) = 0 ∨ (0 : Int32) = 1 from Or.inl rfl), decide_eq_false y]
      rfl
