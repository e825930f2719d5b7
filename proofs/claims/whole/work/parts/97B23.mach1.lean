/-! machines in the reference: looking -/
/-- the keys lie in slots -/
def RKs (σ : RS) (s : Nat) (L : List (List Int32 × List Int32)) (sl : List Nat) : Prop := sl.length = L.length ∧ sl.Nodup ∧ (∀ k ∈ sl, k < 128) ∧ (∀ k, k < 128 → σ.1 119 (128 * s + k) = if k ∈ sl then 1 else 0) ∧
    ∀ i, i < L.length →
      let e := L.getD i ([], [])
      let q := 128 * s + sl.getD i 0
      σ.1 118 (128 * s + i) = Int32.ofNat (sl.getD i 0) ∧ σ.1 114 q = Int32.ofNat e.1.length ∧ σ.1 115 q = Int32.ofNat e.2.length ∧ (∀ j, j < e.1.length → σ.1 116 (32 * q + j) = e.1.getD j 0) ∧ ∀ j, j < e.2.length → σ.1 117 (100 * q + j) = e.2.getD j 0
/-- bytes to be looked for: in the log (0) or with a request (1) -/
def kSrc (σ : RS) (slot : Int32) (at0 : Nat) (k : List Int32) : Prop := (slot = 0 ∧ at0 + k.length ≤ 917504 ∧ ∀ i, i < k.length → rB (σ.2 63) (at0 + i) = k.getD i 0) ∨ (slot = 1 ∧ at0 + k.length ≤ 14336 ∧ ∀ i, i < k.length → σ.1 105 (at0 + i) = k.getD i 0)
theorem getD_drop {α : Type} {l : List α} {j : Nat} {d : α} (h : j < l.length) : l.drop j = l.getD j d :: l.drop (j + 1) := by
  rw [List.getD_eq_getElem?_getD, List.getElem?_eq_getElem h]
  exact List.drop_eq_getElem_cons h
theorem i_subn {p q : Nat} (h : q ≤ p) : Int32.ofNat p - Int32.ofNat q = Int32.ofNat (p - q) := by
  have : Int32.ofNat p = Int32.ofNat (p - q) + Int32.ofNat q := by rw [i_ad, Nat.sub_add_cancel h]
  rw [this, Int32.add_sub_cancel]
theorem i_subr {p q : Nat} (h : p ≤ q) : Int32.ofNat p - Int32.ofNat q = 0 - Int32.ofNat (q - p) := by
  have : Int32.ofNat q = Int32.ofNat p + Int32.ofNat (q - p) := by rw [i_ad, Nat.add_sub_cancel' h]
  rw [this, Int32.sub_eq_add_neg, Int32.neg_add, Int32.sub_eq_add_neg, ← Int32.add_assoc, Int32.add_right_neg, ← Int32.sub_eq_add_neg]
theorem i_sub0 {x y : Int32} : x - y = 0 ↔ x = y := by
  constructor
  · intro h
    have := Int32.sub_add_cancel x y
    rw [h, Int32.zero_add] at this
    exact this.symm
  · intro h
    rw [h, Int32.sub_self]
theorem m_compare_n {F : Nat} {σ : RS} {q at0 : Nat} {slot : Int32} {key k : List Int32} (hF : 400 ≤ F) (hq : q < 896) (h1 : key.length ≤ 32) (h2 : k.length ≤ 300) (e1 : σ.1 114 q = Int32.ofNat key.length) (e2 : ∀ j, j < key.length → σ.1 116 (32 * q + j) = key.getD j 0) (hs : kSrc σ slot at0 k) :
    m_compare F σ (Int32.ofNat q) slot (Int32.ofNat at0) (Int32.ofNat k.length) = some (aCmp key k, σ) := by
  have key0 : ∀ n j, 34 ≤ j + n → j ≤ key.length → j ≤ k.length → WP (m_compare_b3 F n σ (Int32.ofNat q) slot (Int32.ofNat at0) (Int32.ofNat k.length) (Int32.ofNat j)) (fun p => p = (aCmp (key.drop j) (k.drop j), σ)) := by
    intro n
    induction n with
    | zero => intro j g1 g2; omega
    | succ n ih =>
      intro j g1 g2 g3
      unfold m_compare_b3 m_compare_b88
      refine WP_ld rfl 896 (by decide +kernel) hq ?_
      rw [e1]
      refine WP_if (i_gei (by omega) (by omega)) (fun y => ?_) (fun y => ?_)
      · have : j = key.length := by omega
        subst this
        refine WP_ld rfl 896 (by decide +kernel) hq ?_
        rw [e1, List.drop_length]
        have : aCmp [] (k.drop key.length) = 0 - Int32.ofNat (k.length - key.length) := by
          show 0 - Int32.ofNat (k.drop key.length).length = _
          rw [List.length_drop]
        rw [this, i_subr g3]
        exact ⟨_, rfl, rfl⟩
      · refine WP_if (i_gei (by omega) (by omega)) (fun y2 => ?_) (fun y2 => ?_)
        · have : j = k.length := by omega
          subst this
          refine WP_ld rfl 896 (by decide +kernel) hq ?_
          rw [e1, List.drop_length, getD_drop (d := 0) (show k.length < key.length by omega)]
          show WP _ (fun p => p = (Int32.ofNat ((key.drop (k.length + 1)).length + 1), σ))
          rw [List.length_drop, i_subn (by omega), show key.length - (k.length + 1) + 1 = key.length - k.length by omega]
          exact ⟨_, rfl, rfl⟩
        · refine WP_ld (n := 32 * q + j) i_ma 28672 (by decide +kernel) (by omega) ?_
          rw [e2 j (by omega)]
          have step : WP (m_compare_b63 F (m_compare_b3 F n) σ (k.getD j 0) (Int32.ofNat q) slot (Int32.ofNat at0) (Int32.ofNat k.length) (Int32.ofNat j) (key.getD j 0 &&& 255)) (fun p => p = (aCmp (key.drop j) (k.drop j), σ)) := by
            unfold m_compare_b63
            rw [getD_drop (d := 0) (show j < key.length by omega), getD_drop (d := 0) (show j < k.length by omega)]
            have hz : ((key.getD j 0 &&& 255) - (k.getD j 0 &&& 255) = 0) ↔ (key.getD j 0 &&& 255) = (k.getD j 0 &&& 255) := i_sub0
            refine WP_if c2_eq (fun y3 => ?_) (fun y3 => ?_)
            · rw [i_s]
              have e : aCmp (key.getD j 0 :: key.drop (j + 1)) (k.getD j 0 :: k.drop (j + 1)) = aCmp (key.drop (j + 1)) (k.drop (j + 1)) := if_pos (hz.mpr y3)
              rw [e]
              exact ih (j + 1) (by omega) (by omega) (by omega)
            · have e : aCmp (key.getD j 0 :: key.drop (j + 1)) (k.getD j 0 :: k.drop (j + 1)) = (key.getD j 0 &&& 255) - (k.getD j 0 &&& 255) := if_neg (fun z => y3 (hz.mp z))
              rw [e]
              exact ⟨_, rfl, rfl⟩
          rcases hs with ⟨s1, s2, s3⟩ | ⟨s1, s2, s3⟩
          · subst s1
            refine WP_if c0_ne (fun y3 => absurd rfl y3) (fun _ => ?_)
            rw [i_ad]
            refine WP_eq (m_inLog_n (by omega)) ?_
            rw [s3 j (by omega)]
            exact step
          · subst s1
            refine WP_if c0_ne (fun _ => ?_) (fun y3 => absurd y3 (by decide))
            refine WP_ld (n := at0 + j) i_ad 14336 (by decide +kernel) (by omega) ?_
            rw [s3 j (by omega)]
            exact step
  have := key0 F 0 (by omega) (Nat.zero_le _) (Nat.zero_le _)
  obtain ⟨x, x1, x2⟩ := this
  unfold m_compare m_compare_b0
  rw [show (0 : Int32) = Int32.ofNat 0 from rfl, x1, x2, List.drop_zero, List.drop_zero]
/-- what is looked up while a machine stays as it is -/
def RLk (σ : RS) (s : Nat) (M : AM) (sl : List Nat) : Prop := wfM M ∧ σ.1 113 s = Int32.ofNat M.2.length ∧ RKs σ s M.2 sl
theorem RMc_k {σ : RS} {s : Nat} {M : AM} (h : RMc σ s M) : ∃ sl, RLk σ s M sl := by
  obtain ⟨h1, h2, h3, h4, sl, h5⟩ := h
  exact ⟨sl, h1, h3, h5⟩
theorem wf_get {M : AM} {i : Nat} (h : wfM M) (hi : i < M.2.length) : (M.2.getD i ([], [])).1.length ≤ 32 ∧ (M.2.getD i ([], [])).2.length ≤ 100 ∧ (∀ b ∈ (M.2.getD i ([], [])).1, aLow8 b = b) ∧ ∀ b ∈ (M.2.getD i ([], [])).2, aLow8 b = b := by
  have : M.2.getD i ([], []) ∈ M.2 := by
    rw [List.getD_eq_getElem?_getD, List.getElem?_eq_getElem hi]
    exact List.getElem_mem hi
  exact h.2.2.2 _ this
theorem sl_lt {σ : RS} {s i : Nat} {L : List (List Int32 × List Int32)} {sl : List Nat} (h : RKs σ s L sl) (hi : i < L.length) : sl.getD i 0 < 128 := by
  refine h.2.2.1 _ ?_
  rw [List.getD_eq_getElem?_getD, List.getElem?_eq_getElem (by rw [h.1]; exact hi)]
  exact List.getElem_mem _
theorem m_rank_n {F : Nat} {σ : RS} {s at0 : Nat} {slot : Int32} {M : AM} {sl : List Nat} {k : List Int32} (hF : 400 ≤ F) (hs : s < 7) (h : RLk σ s M sl) (hk : kSrc σ slot at0 k) (h2 : k.length ≤ 300) :
    m_rank F σ (Int32.ofNat s) slot (Int32.ofNat at0) (Int32.ofNat k.length) = some (Int32.ofNat (aRank M k), σ) := by
  obtain ⟨w, h113, hK⟩ := h
  have hl := w.2.1
  have key0 : ∀ n j, 130 ≤ j + n → j ≤ M.2.length → aRank M k = j + ((M.2.drop j).takeWhile (fun e => decide (aCmp e.1 k < 0))).length → WP (m_rank_b3 F n σ (Int32.ofNat s) slot (Int32.ofNat at0) (Int32.ofNat k.length) (Int32.ofNat j)) (fun p => p = (Int32.ofNat (aRank M k), σ)) := by
    intro n
    induction n with
    | zero => intro j g1 g2; omega
    | succ n ih =>
      intro j g1 g2 g3
      unfold m_rank_b3 m_rank_b50
      refine WP_ld rfl 7 (by decide +kernel) hs ?_
      rw [h113]
      refine WP_if (i_gei (by omega) (by omega)) (fun y => ?_) (fun y => ?_)
      · have : j = M.2.length := by omega
        subst this
        rw [List.drop_length] at g3
        rw [g3]
        exact ⟨_, rfl, rfl⟩
      · have hj : j < M.2.length := by omega
        obtain ⟨e1, e2, e3, e4, e5⟩ := hK.2.2.2.2 j hj
        have hsl := sl_lt hK hj
        refine WP_ld (n := 128 * s + j) i_ma 896 (by decide +kernel) (by omega) ?_
        rw [e1, show (128 : Int32) * Int32.ofNat s + Int32.ofNat (sl.getD j 0) = Int32.ofNat (128 * s + sl.getD j 0) from i_ma]
        refine WP_eq (m_compare_n hF (by omega) (wf_get w hj).1 h2 e2 e4 hk) ?_
        rw [getD_drop (d := ([], [])) hj] at g3
        refine WP_if c0_ge (fun y2 => ?_) (fun y2 => ?_)
        · rw [List.takeWhile_cons, if_neg (by
            rw [decide_eq_true_iff, Int32.lt_iff_toInt_lt, i_0]
            rw [Int32.le_iff_toInt_le, i_0] at y2
            exact Int.not_lt.mpr y2)] at g3
          rw [g3]
          exact ⟨_, rfl, rfl⟩
        · rw [List.takeWhile_cons, if_pos (decide_eq_true (i_nle.mp y2)), List.length_cons] at g3
          rw [i_s]
          exact ih (j + 1) (by omega) (by omega) (by omega)
  have := key0 F 0 (by omega) (Nat.zero_le _) (by rw [List.drop_zero, Nat.zero_add]; rfl)
  obtain ⟨x, x1, x2⟩ := this
  unfold m_rank m_rank_b0
  rw [show (0 : Int32) = Int32.ofNat 0 from rfl, x1, x2]
theorem aRank_le {M : AM} {k : List Int32} : aRank M k ≤ M.2.length := by
  unfold aRank
  exact (List.takeWhile_sublist _).length_le
/-- the slot of a key, or -1 -/
def rFind (s : Nat) (M : AM) (sl : List Nat) (k : List Int32) : Int32 := if (aFind M k).isSome then Int32.ofNat (128 * s + sl.getD (aRank M k) 0) else -1
theorem aFind_e {M : AM} {k : List Int32} : aFind M k = if aRank M k < M.2.length then (if aCmp (M.2.getD (aRank M k) ([], [])).1 k = 0 then some (M.2.getD (aRank M k) ([], [])).2 else none) else none := by
  unfold aFind
  by_cases q : aRank M k < M.2.length
  · rw [if_pos q, List.getD_eq_getElem?_getD, List.getElem?_eq_getElem q]
    rfl
  · rw [if_neg q, List.getElem?_eq_none (by omega)]
theorem m_find_n {F : Nat} {σ : RS} {s at0 : Nat} {slot : Int32} {M : AM} {sl : List Nat} {k : List Int32} (hF : 400 ≤ F) (hs : s < 7) (h : RLk σ s M sl) (hk : kSrc σ slot at0 k) (h2 : k.length ≤ 300) :
    m_find F σ (Int32.ofNat s) slot (Int32.ofNat at0) (Int32.ofNat k.length) = some (rFind s M sl k, σ) := by
  have hr := m_rank_n hF hs h hk h2
  obtain ⟨w, h113, hK⟩ := h
  have hl := w.2.1
  have hle := @aRank_le M k
  have g : WP (m_find F σ (Int32.ofNat s) slot (Int32.ofNat at0) (Int32.ofNat k.length)) (fun p => p = (rFind s M sl k, σ)) := by
    unfold m_find m_find_b0 m_find_b64 rFind
    rw [aFind_e]
    refine WP_eq hr ?_
    refine WP_ld rfl 7 (by decide +kernel) hs ?_
    rw [h113]
    refine WP_if (c2_ne.trans (not_congr (i_eqi (by omega) (by omega)))) (fun y => ?_) (fun y => ?_)
    · have hj : aRank M k < M.2.length := by omega
      rw [if_pos hj]
      obtain ⟨e1, e2, e3, e4, e5⟩ := hK.2.2.2.2 _ hj
      have hsl := sl_lt hK hj
      refine WP_ld (n := 128 * s + aRank M k) i_ma 896 (by decide +kernel) (by omega) ?_
      rw [e1, show (128 : Int32) * Int32.ofNat s + Int32.ofNat (sl.getD (aRank M k) 0) = Int32.ofNat (128 * s + sl.getD (aRank M k) 0) from i_ma]
      refine WP_eq (m_compare_n hF (by omega) (wf_get w hj).1 h2 e2 e4 hk) ?_
      refine WP_if c0_ne (fun y2 => ?_) (fun y2 => ?_)
      · rw [if_neg y2]
        exact ⟨_, rfl, rfl⟩
      · rw [if_pos (Classical.not_not.mp y2)]
        exact ⟨_, rfl, rfl⟩
    · rw [if_neg (show ¬ aRank M k < M.2.length by omega)]
      exact ⟨_, rfl, rfl⟩
  obtain ⟨x, x1, x2⟩ := g
  rw [x1, x2]
theorem i_div {p d : Nat} (hp : p < 2147483648) (hd : 0 < d) (hd2 : d < 2147483648) : Int32.ofNat p / Int32.ofNat d = Int32.ofNat (p / d) := by
  have h1 : p / d ≤ p := Nat.div_le_self p d
  rw [← Int32.toInt_inj, Int32.toInt_div, Int32.toInt_ofNat_of_lt hp, Int32.toInt_ofNat_of_lt hd2, Int32.toInt_ofNat_of_lt (by omega)]
  rw [Int.tdiv_eq_ediv_of_nonneg (by omega), Int.bmod_def]
  have : (p : Int) / (d : Int) = ((p / d : Nat) : Int) := rfl
  rw [this]
  generalize p / d = x at h1
  omega
theorem m_units_n {F : Nat} {σ : RS} {s : Nat} {M : AM} {sl : List Nat} (hF : 400 ≤ F) (hs : s < 7) (h : RLk σ s M sl) : m_units F σ (Int32.ofNat s) = some (Int32.ofNat (aUnits M), σ) := by
  obtain ⟨w, h113, hK⟩ := h
  have hl := w.2.1
  have key0 : ∀ n j, 130 ≤ j + n → j ≤ M.2.length → WP (m_units_b4 F n σ (Int32.ofNat s) (Int32.ofNat (((M.2.take j).map (fun e => aUnit e.1.length e.2.length)).sum)) (Int32.ofNat j)) (fun p => p = (Int32.ofNat (aUnits M), σ)) := by
    intro n
    induction n with
    | zero => intro j g1 g2; omega
    | succ n ih =>
      intro j g1 g2
      unfold m_units_b4
      refine WP_ld rfl 7 (by decide +kernel) hs ?_
      rw [h113]
      refine WP_if (i_gei (by omega) (by omega)) (fun y => ?_) (fun y => ?_)
      · have : j = M.2.length := by omega
        subst this
        rw [List.take_length]
        exact ⟨_, rfl, rfl⟩
      · have hj : j < M.2.length := by omega
        obtain ⟨e1, e2, e3, e4, e5⟩ := hK.2.2.2.2 j hj
        have hsl := sl_lt hK hj
        obtain ⟨u1, u2, _⟩ := wf_get w hj
        refine WP_ld (n := 128 * s + j) i_ma 896 (by decide +kernel) (by omega) ?_
        rw [e1, show (128 : Int32) * Int32.ofNat s + Int32.ofNat (sl.getD j 0) = Int32.ofNat (128 * s + sl.getD j 0) from i_ma]
        refine WP_ld rfl 896 (by decide +kernel) (by omega) ?_
        refine WP_ld rfl 896 (by decide +kernel) (by omega) ?_
        rw [e2, e3, if_neg (by decide), i_ad, show Int32.ofNat ((M.2.getD j ([], [])).1.length + (M.2.getD j ([], [])).2.length) + 15 = Int32.ofNat ((M.2.getD j ([], [])).1.length + (M.2.getD j ([], [])).2.length + 15) from i_ad (s := 15), show (16 : Int32) = Int32.ofNat 16 from rfl, i_div (by omega) (by omega) (by omega), i_ad, i_s]
        have et : (M.2.take (j + 1)).map (fun e => aUnit e.1.length e.2.length) = (M.2.take j).map (fun e => aUnit e.1.length e.2.length) ++ [aUnit (M.2.getD j ([], [])).1.length (M.2.getD j ([], [])).2.length] := by
          rw [List.take_add_one, List.getElem?_eq_getElem hj, List.map_append, List.getD_eq_getElem?_getD, List.getElem?_eq_getElem hj]
          rfl
        have := ih (j + 1) (by omega) (by omega)
        rw [et, List.sum_append, List.sum_cons, List.sum_nil, Nat.add_zero] at this
        exact this
  have := key0 F 0 (by omega) (Nat.zero_le _)
  obtain ⟨x, x1, x2⟩ := this
  unfold m_units m_units_b0
  rw [show (0 : Int32) = Int32.ofNat 0 from rfl]
  rw [List.take_zero] at x1
  have x1 : m_units_b4 F F σ (Int32.ofNat s) (Int32.ofNat 0) (Int32.ofNat 0) = some x := x1
  rw [x1, x2]
