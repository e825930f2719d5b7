/-! what a majority has at least: the class's three rows -/
/-- the numbers in field 1 of what a leader knows: whether a majority of a set has one -/
theorem K_reach1 {F : Nat} {c : CS} {s n0 : Nat} {x : Nat → Int32} {set v : Int32} (hF : 10 ≤ F) (hn0 : n0 < 128) (hset : set = Int32.ofNat n0) (hx : ∀ p, p < 7 → cI c 7 s 1 p = x p) : k_Lead_isReached_7_1 F c s set v = some (aB (decide (aCnt set < 2 * kCn x v set 7))) := by
  unfold k_Lead_isReached_7_1 k_Lead_isReached_7_1_b0
  have key : ∀ n p, 8 ≤ p + n → p ≤ 7 → k_Lead_isReached_7_1_b5 F n c s set v (Int32.ofNat (kCn x v set p)) (Int32.ofNat p) = some (aB (decide (aCnt set < 2 * kCn x v set 7))) := by
    intro n
    induction n with
    | zero => intro p h1 h2; omega
    | succ n ih =>
      intro p h1 h2
      unfold k_Lead_isReached_7_1_b5
      dsimp only
      unfold k_Lead_isReached_7_1_b32 k_Lead_isReached_7_1_b53
      by_cases q : p = 7
      · subst q
        rw [if_pos (by decide), K_bits hn0 hset, Option.bind_some, i_2, if_pos (Or.inl rfl), if_pos (Or.inr rfl)]
        have b1 := aCnt_le (x := set)
        have b2 := kCn_le (x := x) (v := v) (set := set) 7
        have b3 : aCntN set 7 = aCnt set := rfl
        by_cases z : aCnt set < 2 * kCn x v set 7
        · rw [if_neg (fun y => by have := (i_lei (by omega) (by omega)).mp y; omega), decide_eq_true z]
          rfl
        · rw [if_pos ((i_lei (by omega) (by omega)).mpr (by omega)), decide_eq_false z]
          rfl
      · have hp : p < 7 := by omega
        rw [if_neg (fun y => by
          rw [show (7 : Int32) = Int32.ofNat 7 from rfl] at y
          have := (i_gei (by omega) (by omega)).mp y
          omega)]
        have es : kCn x v set (p + 1) = kCn x v set p + if aIn set p = true ∧ v ≤ x p then 1 else 0 := rfl
        by_cases z : aIn set p = false
        · rw [if_pos ((bit_k hp).mpr z), i_s]
          rw [if_neg (fun y => by rw [z] at y; exact absurd y.1 (by decide))] at es
          have es2 : kCn x v set p = kCn x v set (p + 1) := by omega
          rw [es2]
          exact ih (p + 1) (by omega) (by omega)
        · have z' : aIn set p = true := by simpa using z
          rw [if_neg (fun y => z ((bit_k hp).mp y)), crd_n (c := c) (cl := 7) (i := s) (f := 1) rfl (show p < 7 from hp) (by omega), Option.bind_some, hx p hp]
          by_cases w : v ≤ x p
          · rw [if_neg (fun y => (i_nle.mpr (c2_lt.mp y)) w), i_s, i_s]
            rw [if_pos ⟨z', w⟩] at es
            rw [← es]
            exact ih (p + 1) (by omega) (by omega)
          · rw [if_pos (c2_lt.mpr (i_nle.mp w)), i_s]
            rw [if_neg (fun y => w y.2)] at es
            have es2 : kCn x v set p = kCn x v set (p + 1) := by omega
            rw [es2]
            exact ih (p + 1) (by omega) (by omega)
  exact key F 0 (by omega) (by omega)
theorem K_mostOf1 {F : Nat} {c : CS} {s n0 : Nat} {x : Nat → Int32} {set : Int32} (hF : 10 ≤ F) (hn0 : n0 < 128) (hset : set = Int32.ofNat n0) (hx : ∀ p, p < 7 → cI c 7 s 1 p = x p) : k_Lead_mostOf_7_1 F c s set = some (kMost x set 7) := by
  unfold k_Lead_mostOf_7_1 k_Lead_mostOf_7_1_b0
  have key : ∀ n p, 8 ≤ p + n → p ≤ 7 → k_Lead_mostOf_7_1_b5 F n c s set (kMost x set p) (Int32.ofNat p) = some (kMost x set 7) := by
    intro n
    induction n with
    | zero => intro p h1 h2; omega
    | succ n ih =>
      intro p h1 h2
      unfold k_Lead_mostOf_7_1_b5
      dsimp only
      unfold k_Lead_mostOf_7_1_b41
      by_cases q : p = 7
      · subst q
        rw [if_pos (by decide)]
      · have hp : p < 7 := by omega
        have hr : crd c 7 s 1 (Int32.ofNat p) = some (x p) := by rw [crd_n (c := c) (cl := 7) (i := s) (f := 1) rfl (show p < 7 from hp) (by omega), hx p hp]
        rw [if_neg (fun y => by
          rw [show (7 : Int32) = Int32.ofNat 7 from rfl] at y
          have := (i_gei (by omega) (by omega)).mp y
          omega)]
        have es : kMost x set (p + 1) = if aIn set p = true ∧ kMost x set p < x p ∧ aCnt set < 2 * kCn x (x p) set 7 then x p else kMost x set p := rfl
        have skip : ¬ (aIn set p = true ∧ kMost x set p < x p ∧ aCnt set < 2 * kCn x (x p) set 7) → k_Lead_mostOf_7_1_b5 F n c s set (kMost x set p) (Int32.ofNat p + 1) = some (kMost x set 7) := by
          intro y
          rw [if_neg y] at es
          rw [← es, i_s]
          exact ih (p + 1) (by omega) (by omega)
        by_cases z : aIn set p = false
        · rw [if_pos ((bit_k hp).mpr z)]
          exact skip (fun y => by rw [z] at y; exact absurd y.1 (by decide))
        · have z' : aIn set p = true := by simpa using z
          rw [if_neg (fun y => z ((bit_k hp).mp y)), hr, Option.bind_some, Option.bind_some, Option.bind_some]
          by_cases w : kMost x set p < x p
          · rw [if_neg (fun y => (i_nlt.mpr (c2_le.mp y)) w), K_reach1 hF hn0 hset hx, Option.bind_some]
            by_cases r : aCnt set < 2 * kCn x (x p) set 7
            · rw [decide_eq_true r, if_neg (by decide)]
              rw [if_pos ⟨z', w, r⟩] at es
              rw [← es, i_s]
              exact ih (p + 1) (by omega) (by omega)
            · rw [decide_eq_false r, if_pos (by decide)]
              exact skip (fun y => r y.2.2)
          · rw [if_pos (c2_le.mpr (i_nlt.mp w))]
            exact skip (fun y => w y.2.1)
  exact key F 0 (by omega) (by omega)
theorem K_most1 {F : Nat} {cc : CS} {s : Nat} {x : Nat → Int32} {c : Int32} (hF : 10 ≤ F) (hx : ∀ p, p < 7 → cI cc 7 s 1 p = x p) (ho : ∃ p, p < 7 ∧ aIn (aOldM c) p = true) (h0 : ∀ p, p < 7 → 0 ≤ x p) : k_Lead_most_7_1 F cc s c = some (aCommon c x 7) := by
  unfold k_Lead_most_7_1 k_Lead_most_7_1_b0 k_Lead_most_7_1_b34
  obtain ⟨n1, b1, e1⟩ := and127 c
  obtain ⟨n2, b2, e2⟩ := and127 (c >>> ((7 : Int32) &&& 31))
  rw [K_mostOf1 hF b1 e1 hx, Option.bind_some, K_mostOf1 hF b2 e2 hx, Option.bind_some, most_common ho h0]
  have en : (c >>> ((7 : Int32) &&& 31)) &&& 127 = aNewM c := rfl
  have eo : c &&& 127 = aOldM c := rfl
  rw [en, eo]
  by_cases q : aNewM c = 0
  · rw [if_neg (fun z => c0_ne.mp z q), if_pos q]
  · rw [if_pos (c0_ne.mpr q), if_neg q]
/-- the numbers in field 4 of what a leader knows: whether a majority of a set has one -/
theorem K_reach4 {F : Nat} {c : CS} {s n0 : Nat} {x : Nat → Int32} {set v : Int32} (hF : 10 ≤ F) (hn0 : n0 < 128) (hset : set = Int32.ofNat n0) (hx : ∀ p, p < 7 → cI c 7 s 4 p = x p) : k_Lead_isReached_7_4 F c s set v = some (aB (decide (aCnt set < 2 * kCn x v set 7))) := by
  unfold k_Lead_isReached_7_4 k_Lead_isReached_7_4_b0
  have key : ∀ n p, 8 ≤ p + n → p ≤ 7 → k_Lead_isReached_7_4_b5 F n c s set v (Int32.ofNat (kCn x v set p)) (Int32.ofNat p) = some (aB (decide (aCnt set < 2 * kCn x v set 7))) := by
    intro n
    induction n with
    | zero => intro p h1 h2; omega
    | succ n ih =>
      intro p h1 h2
      unfold k_Lead_isReached_7_4_b5
      dsimp only
      unfold k_Lead_isReached_7_4_b32 k_Lead_isReached_7_4_b53
      by_cases q : p = 7
      · subst q
        rw [if_pos (by decide), K_bits hn0 hset, Option.bind_some, i_2, if_pos (Or.inl rfl), if_pos (Or.inr rfl)]
        have b1 := aCnt_le (x := set)
        have b2 := kCn_le (x := x) (v := v) (set := set) 7
        have b3 : aCntN set 7 = aCnt set := rfl
        by_cases z : aCnt set < 2 * kCn x v set 7
        · rw [if_neg (fun y => by have := (i_lei (by omega) (by omega)).mp y; omega), decide_eq_true z]
          rfl
        · rw [if_pos ((i_lei (by omega) (by omega)).mpr (by omega)), decide_eq_false z]
          rfl
      · have hp : p < 7 := by omega
        rw [if_neg (fun y => by
          rw [show (7 : Int32) = Int32.ofNat 7 from rfl] at y
          have := (i_gei (by omega) (by omega)).mp y
          omega)]
        have es : kCn x v set (p + 1) = kCn x v set p + if aIn set p = true ∧ v ≤ x p then 1 else 0 := rfl
        by_cases z : aIn set p = false
        · rw [if_pos ((bit_k hp).mpr z), i_s]
          rw [if_neg (fun y => by rw [z] at y; exact absurd y.1 (by decide))] at es
          have es2 : kCn x v set p = kCn x v set (p + 1) := by omega
          rw [es2]
          exact ih (p + 1) (by omega) (by omega)
        · have z' : aIn set p = true := by simpa using z
          rw [if_neg (fun y => z ((bit_k hp).mp y)), crd_n (c := c) (cl := 7) (i := s) (f := 4) rfl (show p < 7 from hp) (by omega), Option.bind_some, hx p hp]
          by_cases w : v ≤ x p
          · rw [if_neg (fun y => (i_nle.mpr (c2_lt.mp y)) w), i_s, i_s]
            rw [if_pos ⟨z', w⟩] at es
            rw [← es]
            exact ih (p + 1) (by omega) (by omega)
          · rw [if_pos (c2_lt.mpr (i_nle.mp w)), i_s]
            rw [if_neg (fun y => w y.2)] at es
            have es2 : kCn x v set p = kCn x v set (p + 1) := by omega
            rw [es2]
            exact ih (p + 1) (by omega) (by omega)
  exact key F 0 (by omega) (by omega)
theorem K_mostOf4 {F : Nat} {c : CS} {s n0 : Nat} {x : Nat → Int32} {set : Int32} (hF : 10 ≤ F) (hn0 : n0 < 128) (hset : set = Int32.ofNat n0) (hx : ∀ p, p < 7 → cI c 7 s 4 p = x p) : k_Lead_mostOf_7_4 F c s set = some (kMost x set 7) := by
  unfold k_Lead_mostOf_7_4 k_Lead_mostOf_7_4_b0
  have key : ∀ n p, 8 ≤ p + n → p ≤ 7 → k_Lead_mostOf_7_4_b5 F n c s set (kMost x set p) (Int32.ofNat p) = some (kMost x set 7) := by
    intro n
    induction n with
    | zero => intro p h1 h2; omega
    | succ n ih =>
      intro p h1 h2
      unfold k_Lead_mostOf_7_4_b5
      dsimp only
      unfold k_Lead_mostOf_7_4_b41
      by_cases q : p = 7
      · subst q
        rw [if_pos (by decide)]
      · have hp : p < 7 := by omega
        have hr : crd c 7 s 4 (Int32.ofNat p) = some (x p) := by rw [crd_n (c := c) (cl := 7) (i := s) (f := 4) rfl (show p < 7 from hp) (by omega), hx p hp]
        rw [if_neg (fun y => by
          rw [show (7 : Int32) = Int32.ofNat 7 from rfl] at y
          have := (i_gei (by omega) (by omega)).mp y
          omega)]
        have es : kMost x set (p + 1) = if aIn set p = true ∧ kMost x set p < x p ∧ aCnt set < 2 * kCn x (x p) set 7 then x p else kMost x set p := rfl
        have skip : ¬ (aIn set p = true ∧ kMost x set p < x p ∧ aCnt set < 2 * kCn x (x p) set 7) → k_Lead_mostOf_7_4_b5 F n c s set (kMost x set p) (Int32.ofNat p + 1) = some (kMost x set 7) := by
          intro y
          rw [if_neg y] at es
          rw [← es, i_s]
          exact ih (p + 1) (by omega) (by omega)
        by_cases z : aIn set p = false
        · rw [if_pos ((bit_k hp).mpr z)]
          exact skip (fun y => by rw [z] at y; exact absurd y.1 (by decide))
        · have z' : aIn set p = true := by simpa using z
          rw [if_neg (fun y => z ((bit_k hp).mp y)), hr, Option.bind_some, Option.bind_some, Option.bind_some]
          by_cases w : kMost x set p < x p
          · rw [if_neg (fun y => (i_nlt.mpr (c2_le.mp y)) w), K_reach4 hF hn0 hset hx, Option.bind_some]
            by_cases r : aCnt set < 2 * kCn x (x p) set 7
            · rw [decide_eq_true r, if_neg (by decide)]
              rw [if_pos ⟨z', w, r⟩] at es
              rw [← es, i_s]
              exact ih (p + 1) (by omega) (by omega)
            · rw [decide_eq_false r, if_pos (by decide)]
              exact skip (fun y => r y.2.2)
          · rw [if_pos (c2_le.mpr (i_nlt.mp w))]
            exact skip (fun y => w y.2.1)
  exact key F 0 (by omega) (by omega)
theorem K_most4 {F : Nat} {cc : CS} {s : Nat} {x : Nat → Int32} {c : Int32} (hF : 10 ≤ F) (hx : ∀ p, p < 7 → cI cc 7 s 4 p = x p) (ho : ∃ p, p < 7 ∧ aIn (aOldM c) p = true) (h0 : ∀ p, p < 7 → 0 ≤ x p) : k_Lead_most_7_4 F cc s c = some (aCommon c x 7) := by
  unfold k_Lead_most_7_4 k_Lead_most_7_4_b0 k_Lead_most_7_4_b34
  obtain ⟨n1, b1, e1⟩ := and127 c
  obtain ⟨n2, b2, e2⟩ := and127 (c >>> ((7 : Int32) &&& 31))
  rw [K_mostOf4 hF b1 e1 hx, Option.bind_some, K_mostOf4 hF b2 e2 hx, Option.bind_some, most_common ho h0]
  have en : (c >>> ((7 : Int32) &&& 31)) &&& 127 = aNewM c := rfl
  have eo : c &&& 127 = aOldM c := rfl
  rw [en, eo]
  by_cases q : aNewM c = 0
  · rw [if_neg (fun z => c0_ne.mp z q), if_pos q]
  · rw [if_pos (c0_ne.mpr q), if_neg q]
/-- the numbers in field 5 of what a leader knows: whether a majority of a set has one -/
theorem K_reach5 {F : Nat} {c : CS} {s n0 : Nat} {x : Nat → Int32} {set v : Int32} (hF : 10 ≤ F) (hn0 : n0 < 128) (hset : set = Int32.ofNat n0) (hx : ∀ p, p < 7 → cI c 7 s 5 p = x p) : k_Lead_isReached_7_5 F c s set v = some (aB (decide (aCnt set < 2 * kCn x v set 7))) := by
  unfold k_Lead_isReached_7_5 k_Lead_isReached_7_5_b0
  have key : ∀ n p, 8 ≤ p + n → p ≤ 7 → k_Lead_isReached_7_5_b5 F n c s set v (Int32.ofNat (kCn x v set p)) (Int32.ofNat p) = some (aB (decide (aCnt set < 2 * kCn x v set 7))) := by
    intro n
    induction n with
    | zero => intro p h1 h2; omega
    | succ n ih =>
      intro p h1 h2
      unfold k_Lead_isReached_7_5_b5
      dsimp only
      unfold k_Lead_isReached_7_5_b32 k_Lead_isReached_7_5_b53
      by_cases q : p = 7
      · subst q
        rw [if_pos (by decide), K_bits hn0 hset, Option.bind_some, i_2, if_pos (Or.inl rfl), if_pos (Or.inr rfl)]
        have b1 := aCnt_le (x := set)
        have b2 := kCn_le (x := x) (v := v) (set := set) 7
        have b3 : aCntN set 7 = aCnt set := rfl
        by_cases z : aCnt set < 2 * kCn x v set 7
        · rw [if_neg (fun y => by have := (i_lei (by omega) (by omega)).mp y; omega), decide_eq_true z]
          rfl
        · rw [if_pos ((i_lei (by omega) (by omega)).mpr (by omega)), decide_eq_false z]
          rfl
      · have hp : p < 7 := by omega
        rw [if_neg (fun y => by
          rw [show (7 : Int32) = Int32.ofNat 7 from rfl] at y
          have := (i_gei (by omega) (by omega)).mp y
          omega)]
        have es : kCn x v set (p + 1) = kCn x v set p + if aIn set p = true ∧ v ≤ x p then 1 else 0 := rfl
        by_cases z : aIn set p = false
        · rw [if_pos ((bit_k hp).mpr z), i_s]
          rw [if_neg (fun y => by rw [z] at y; exact absurd y.1 (by decide))] at es
          have es2 : kCn x v set p = kCn x v set (p + 1) := by omega
          rw [es2]
          exact ih (p + 1) (by omega) (by omega)
        · have z' : aIn set p = true := by simpa using z
          rw [if_neg (fun y => z ((bit_k hp).mp y)), crd_n (c := c) (cl := 7) (i := s) (f := 5) rfl (show p < 7 from hp) (by omega), Option.bind_some, hx p hp]
          by_cases w : v ≤ x p
          · rw [if_neg (fun y => (i_nle.mpr (c2_lt.mp y)) w), i_s, i_s]
            rw [if_pos ⟨z', w⟩] at es
            rw [← es]
            exact ih (p + 1) (by omega) (by omega)
          · rw [if_pos (c2_lt.mpr (i_nle.mp w)), i_s]
            rw [if_neg (fun y => w y.2)] at es
            have es2 : kCn x v set p = kCn x v set (p + 1) := by omega
            rw [es2]
            exact ih (p + 1) (by omega) (by omega)
  exact key F 0 (by omega) (by omega)
theorem K_mostOf5 {F : Nat} {c : CS} {s n0 : Nat} {x : Nat → Int32} {set : Int32} (hF : 10 ≤ F) (hn0 : n0 < 128) (hset : set = Int32.ofNat n0) (hx : ∀ p, p < 7 → cI c 7 s 5 p = x p) : k_Lead_mostOf_7_5 F c s set = some (kMost x set 7) := by
  unfold k_Lead_mostOf_7_5 k_Lead_mostOf_7_5_b0
  have key : ∀ n p, 8 ≤ p + n → p ≤ 7 → k_Lead_mostOf_7_5_b5 F n c s set (kMost x set p) (Int32.ofNat p) = some (kMost x set 7) := by
    intro n
    induction n with
    | zero => intro p h1 h2; omega
    | succ n ih =>
      intro p h1 h2
      unfold k_Lead_mostOf_7_5_b5
      dsimp only
      unfold k_Lead_mostOf_7_5_b41
      by_cases q : p = 7
      · subst q
        rw [if_pos (by decide)]
      · have hp : p < 7 := by omega
        have hr : crd c 7 s 5 (Int32.ofNat p) = some (x p) := by rw [crd_n (c := c) (cl := 7) (i := s) (f := 5) rfl (show p < 7 from hp) (by omega), hx p hp]
        rw [if_neg (fun y => by
          rw [show (7 : Int32) = Int32.ofNat 7 from rfl] at y
          have := (i_gei (by omega) (by omega)).mp y
          omega)]
        have es : kMost x set (p + 1) = if aIn set p = true ∧ kMost x set p < x p ∧ aCnt set < 2 * kCn x (x p) set 7 then x p else kMost x set p := rfl
        have skip : ¬ (aIn set p = true ∧ kMost x set p < x p ∧ aCnt set < 2 * kCn x (x p) set 7) → k_Lead_mostOf_7_5_b5 F n c s set (kMost x set p) (Int32.ofNat p + 1) = some (kMost x set 7) := by
          intro y
          rw [if_neg y] at es
          rw [← es, i_s]
          exact ih (p + 1) (by omega) (by omega)
        by_cases z : aIn set p = false
        · rw [if_pos ((bit_k hp).mpr z)]
          exact skip (fun y => by rw [z] at y; exact absurd y.1 (by decide))
        · have z' : aIn set p = true := by simpa using z
          rw [if_neg (fun y => z ((bit_k hp).mp y)), hr, Option.bind_some, Option.bind_some, Option.bind_some]
          by_cases w : kMost x set p < x p
          · rw [if_neg (fun y => (i_nlt.mpr (c2_le.mp y)) w), K_reach5 hF hn0 hset hx, Option.bind_some]
            by_cases r : aCnt set < 2 * kCn x (x p) set 7
            · rw [decide_eq_true r, if_neg (by decide)]
              rw [if_pos ⟨z', w, r⟩] at es
              rw [← es, i_s]
              exact ih (p + 1) (by omega) (by omega)
            · rw [decide_eq_false r, if_pos (by decide)]
              exact skip (fun y => r y.2.2)
          · rw [if_pos (c2_le.mpr (i_nlt.mp w))]
            exact skip (fun y => w y.2.1)
  exact key F 0 (by omega) (by omega)
theorem K_most5 {F : Nat} {cc : CS} {s : Nat} {x : Nat → Int32} {c : Int32} (hF : 10 ≤ F) (hx : ∀ p, p < 7 → cI cc 7 s 5 p = x p) (ho : ∃ p, p < 7 ∧ aIn (aOldM c) p = true) (h0 : ∀ p, p < 7 → 0 ≤ x p) : k_Lead_most_7_5 F cc s c = some (aCommon c x 7) := by
  unfold k_Lead_most_7_5 k_Lead_most_7_5_b0 k_Lead_most_7_5_b34
  obtain ⟨n1, b1, e1⟩ := and127 c
  obtain ⟨n2, b2, e2⟩ := and127 (c >>> ((7 : Int32) &&& 31))
  rw [K_mostOf5 hF b1 e1 hx, Option.bind_some, K_mostOf5 hF b2 e2 hx, Option.bind_some, most_common ho h0]
  have en : (c >>> ((7 : Int32) &&& 31)) &&& 127 = aNewM c := rfl
  have eo : c &&& 127 = aOldM c := rfl
  rw [en, eo]
  by_cases q : aNewM c = 0
  · rw [if_neg (fun z => c0_ne.mp z q), if_pos q]
  · rw [if_pos (c0_ne.mpr q), if_neg q]
