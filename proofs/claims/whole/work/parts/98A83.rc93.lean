/-! the beginning: the class's memory and the store's -/
def nB (m : Int32) (f i : Nat) : Int32 := if f = 23 then 3 else if f = 29 ∨ f = 31 ∨ f = 45 ∨ f = 47 ∨ f = 54 ∨ f = 69 ∨ f = 74 ∨ f = 80 ∨ f = 126 then -1 else if f = 52 then 1 else if f = 58 ∨ f = 65 ∨ (f = 145 ∧ i = 0) then m else if f = 72 then 2 else if f = 78 then -2000000000 else 0
def nL0 (J : Int64) (f i : Nat) : Int64 := if f = 84 then J + (Int32.ofNat i).toInt64 else 0
def nX : AX := ([], fun _ => [], fun _ => [], fun _ => ([], []), fun _ => ([], []), fun _ => ([], []), fun _ _ => (fun _ => 0, [], ([], [])), fun _ _ => (fun _ => 0, [], ([], [])), fun _ => [], fun _ => [], [], [], [], fun _ => [])
def nwT (J : Int64) (i : Nat) : Int32 := 0 + 50 + aRnd (aLcg (nL0 J 84 i)) 50
def nA (n : Int32) (J : Int64) (k : Nat) : AA := ((fun f i => if f = 29 ∧ i < k then Int32.ofNat i else if f = 30 ∧ i < k then nwT J i else if f = 2 ∧ i = 0 then Int32.ofNat k else nB n f i, fun f i => if f = 84 ∧ i < k then aLcg (nL0 J 84 i) else nL0 J f i), nX)
theorem draws_e {n : Int32} {J : Int64} : ∀ k, aDraws ((nB n, nL0 J), nX) k = nA n J k := by
  intro k
  induction k with
  | zero =>
    refine Prod.ext (Prod.ext (funext fun f => funext fun i => ?_) (funext fun f => funext fun i => ?_)) rfl
    · show nB n f i = if f = 29 ∧ i < 0 then Int32.ofNat i else if f = 30 ∧ i < 0 then nwT J i else if f = 2 ∧ i = 0 then Int32.ofNat 0 else nB n f i
      rw [if_neg (fun z => Nat.not_lt_zero _ z.2), if_neg (fun z => Nat.not_lt_zero _ z.2)]
      by_cases q : f = 2 ∧ i = 0
      · rw [if_pos q, q.1, q.2]
        rfl
      · rw [if_neg q]
    · show nL0 J f i = if f = 84 ∧ i < 0 then aLcg (nL0 J 84 i) else nL0 J f i
      rw [if_neg (fun z => Nat.not_lt_zero _ z.2)]
  | succ k ih =>
    have e : aDraws ((nB n, nL0 J), nX) (k + 1) = A_drawAlarm (aDraws ((nB n, nL0 J), nX) k) k := rfl
    have e84 : (nA n J k).1.2 84 k = nL0 J 84 k := if_neg (fun z => Nat.lt_irrefl _ z.2)
    have e2 : aS (nA n J k) 2 0 = Int32.ofNat k := rfl
    have e1 : aNow (nA n J k) = 0 := rfl
    rw [e, ih]
    unfold A_drawAlarm
    rw [e84, e1]
    refine Prod.ext (Prod.ext (funext fun f => funext fun i => ?_) (funext fun f => funext fun i => ?_)) rfl
    · show (if f = 2 ∧ i = 0 then Int32.ofNat k + 1 else if f = 29 ∧ i = k then Int32.ofNat k else if f = 30 ∧ i = k then nwT J k else if f = 29 ∧ i < k then Int32.ofNat i else if f = 30 ∧ i < k then nwT J i else if f = 2 ∧ i = 0 then Int32.ofNat k else nB n f i) = if f = 29 ∧ i < k + 1 then Int32.ofNat i else if f = 30 ∧ i < k + 1 then nwT J i else if f = 2 ∧ i = 0 then Int32.ofNat (k + 1) else nB n f i
      by_cases q2 : f = 2 ∧ i = 0
      · rw [if_pos q2, if_neg (fun z => by omega), if_neg (fun z => by omega), if_pos q2, i_s]
      · rw [if_neg q2, if_neg q2, if_neg q2]
        by_cases q9 : f = 29
        · by_cases z : i = k
          · rw [if_pos ⟨q9, z⟩, if_pos ⟨q9, by omega⟩, z]
          · rw [if_neg (fun y => z y.2), if_neg (fun y => by omega)]
            by_cases w : i < k
            · rw [if_pos ⟨q9, w⟩, if_pos ⟨q9, by omega⟩]
            · rw [if_neg (fun y => w y.2), if_neg (fun y => by omega), if_neg (fun y => by omega), if_neg (fun y => by omega)]
        · by_cases q0 : f = 30
          · by_cases z : i = k
            · rw [if_neg (fun y => q9 y.1), if_pos ⟨q0, z⟩, if_neg (fun y => q9 y.1), if_pos ⟨q0, by omega⟩, z]
            · by_cases w : i < k
              · rw [if_neg (fun y => q9 y.1), if_neg (fun y => z y.2), if_neg (fun y => q9 y.1), if_pos ⟨q0, w⟩, if_neg (fun y => q9 y.1), if_pos ⟨q0, by omega⟩]
              · rw [if_neg (fun y => q9 y.1), if_neg (fun y => z y.2), if_neg (fun y => q9 y.1), if_neg (fun y => w y.2), if_neg (fun y => q9 y.1), if_neg (fun y => by omega)]
          · rw [if_neg (fun y => q9 y.1), if_neg (fun y => q0 y.1), if_neg (fun y => q9 y.1), if_neg (fun y => q0 y.1), if_neg (fun y => q9 y.1), if_neg (fun y => q0 y.1)]
    · show (if f = 84 ∧ i = k then aLcg (nL0 J 84 k) else if f = 84 ∧ i < k then aLcg (nL0 J 84 i) else nL0 J f i) = if f = 84 ∧ i < k + 1 then aLcg (nL0 J 84 i) else nL0 J f i
      by_cases q : f = 84
      · by_cases z : i = k
        · rw [if_pos ⟨q, z⟩, if_pos ⟨q, by omega⟩, z]
        · rw [if_neg (fun y => z y.2)]
          by_cases w : i < k
          · rw [if_pos ⟨q, w⟩, if_pos ⟨q, by omega⟩]
          · rw [if_neg (fun y => w y.2), if_neg (fun y => by omega)]
      · rw [if_neg (fun y => q y.1), if_neg (fun y => q y.1), if_neg (fun y => q y.1)]
theorem new_e {n : Int32} {J : Int64} : A_new n J = nA (aCode0 n) J 7 := draws_e 7
theorem m_e (n : Int32) : cmax 1 (cmin 7 n) = aMany7 n := by
  unfold cmax cmin aMany7
  by_cases q1 : n < 1
  · have q7 : n < 7 := by
      rw [Int32.lt_iff_toInt_lt] at q1 ⊢
      rw [L_1] at q1
      rw [L_7]
      omega
    have q2 : ¬ 1 < n := fun z => by
      rw [Int32.lt_iff_toInt_lt] at q1 z
      omega
    rw [if_pos q1, if_pos q7, if_neg q2]
  · rw [if_neg q1]
    by_cases q7 : 7 < n
    · have q2 : ¬ n < 7 := fun z => by
        rw [Int32.lt_iff_toInt_lt] at q7 z
        omega
      rw [if_pos q7, if_neg q2, if_pos (by decide)]
    · rw [if_neg q7]
      by_cases q : n < 7
      · rw [if_pos q]
        by_cases w : 1 < n
        · rw [if_pos w]
        · rw [if_neg w]
          refine Int32.toInt_inj.mp ?_
          rw [Int32.lt_iff_toInt_lt] at q1 w
          omega
      · rw [if_neg q, if_pos (by decide)]
        refine Int32.toInt_inj.mp ?_
        rw [Int32.lt_iff_toInt_lt] at q7 q
        omega
theorem m7_r (n : Int32) : 1 ≤ (aMany7 n).toInt ∧ (aMany7 n).toInt ≤ 7 := by
  unfold aMany7
  by_cases q1 : n < 1
  · rw [if_pos q1, L_1]
    omega
  · rw [if_neg q1]
    by_cases q7 : 7 < n
    · rw [if_pos q7, L_7]
      omega
    · rw [if_neg q7]
      rw [Int32.lt_iff_toInt_lt] at q1 q7
      rw [L_1] at q1
      rw [L_7] at q7
      omega
theorem m7_c (n : Int32) : ∃ k, k < 8 ∧ aMany7 n = Int32.ofNat k := by
  obtain ⟨h1, h2⟩ := m7_r n
  have q : ¬ aMany7 n < 0 := fun z => by
    rw [Int32.lt_iff_toInt_lt, i_0] at z
    omega
  obtain ⟨e, e2⟩ := i_ofx q
  exact ⟨_, by omega, e⟩
theorem m7_s : ∀ k, k < 8 → ((1 : Int32) <<< (Int32.ofNat k &&& 31)) - 1 = ((1 : Int32) <<< Int32.ofNat k) - 1 := by decide
theorem stm_e (n : Int32) : stm n = aCode0 n := by
  unfold stm aCode0
  rw [m_e]
  obtain ⟨k, hk, e⟩ := m7_c n
  rw [e]
  exact m7_s k hk
/-! what the constructor's rows hold -/
theorem nL_e {J : Int64} {k : Nat} : nL0 J 84 k = stx J k := if_pos rfl
theorem dl_e {x : Int64} : vJ (.long (ddraw x)) = aLcg x := rfl
theorem dr_e {x : Int64} : ddraw x = aLcg x := rfl
theorem dt_e {J : Int64} {k : Nat} : dtime 0 (stx J k) = nwT J k := by
  have e : ((33 : Int32)).toInt64.toUInt64 &&& Int64.toUInt64 63 = 33 := by decide
  unfold dtime nwT aRnd
  rw [e, dr_e, nL_e]
theorem stT_v {J : Int64} : ∀ k j, j < k → stT J k j = .int (dtime 0 (stx J j)) := by
  intro k
  induction k with
  | zero => exact fun j h => absurd h (Nat.not_lt_zero _)
  | succ k ih =>
    intro j h
    show (if j = k then Value.int (dtime 0 (stx J k)) else stT J k j) = _
    by_cases q : j = k
    · rw [if_pos q, q]
    · rw [if_neg q]
      exact ih j (by omega)
theorem stT_w {J : Int64} : ∀ k j, k ≤ j → j < 23 → stT J k j = .int (-1) := by
  intro k
  induction k with
  | zero =>
    intro j _ h
    show (if j < 23 then Value.int (-1) else _) = _
    rw [if_pos h]
  | succ k ih =>
    intro j h h2
    show (if j = k then Value.int (dtime 0 (stx J k)) else stT J k j) = _
    rw [if_neg (by omega)]
    exact ih j (by omega) h2
theorem stO_v : ∀ k j, j < k → stO k j = .int (Int32.ofNat j) := by
  intro k
  induction k with
  | zero => exact fun j h => absurd h (Nat.not_lt_zero _)
  | succ k ih =>
    intro j h
    show (if j = k then Value.int (Int32.ofNat k) else stO k j) = _
    by_cases q : j = k
    · rw [if_pos q, q]
    · rw [if_neg q]
      exact ih j (by omega)
theorem stS_v {J : Int64} : ∀ k j, j < k → stS J k j = .long (ddraw (stx J j)) := by
  intro k
  induction k with
  | zero => exact fun j h => absurd h (Nat.not_lt_zero _)
  | succ k ih =>
    intro j h
    show (if j = k then Value.long (ddraw (stx J k)) else stS J k j) = _
    by_cases q : j = k
    · rw [if_pos q, q]
    · rw [if_neg q]
      exact ih j (by omega)
theorem nwT_b {J : Int64} {k : Nat} : 0 ≤ (nwT J k).toInt ∧ (nwT J k).toInt < 100 := by
  obtain ⟨h1, h2⟩ := aRnd_b (x := aLcg (nL0 J 84 k)) (m := 50) (by decide) (by decide)
  have e : nwT J k = 0 + 50 + aRnd (aLcg (nL0 J 84 k)) (Int64.ofNat 50) := rfl
  rw [e]
  have e0 : ((0 : Int32) + 50) = Int32.ofInt 50 := by decide
  rw [e0, Int32.toInt_add, show (Int32.ofInt 50).toInt = 50 by decide, Int.bmod_eq_of_le (by omega) (by omega)]
  omega
/-! the class at the beginning -/
theorem n_s1 {n : Int32} {J : Int64} {T : Nat × Nat} : cI (c0 n J T) 14 0 0 0 = aS (nA n J 7) 1 0 := (show cI (c0 n J T) 14 0 0 0 = 0 from rfl).trans (show aS (nA n J 7) 1 0 = 0 from rfl).symm
theorem n_s2 {n : Int32} {J : Int64} {T : Nat × Nat} : cI (c0 n J T) 14 0 1 0 = aS (nA n J 7) 2 0 := (show cI (c0 n J T) 14 0 1 0 = 7 from rfl).trans (show aS (nA n J 7) 2 0 = 7 from rfl).symm
theorem n_s3 {n : Int32} {J : Int64} {T : Nat × Nat} : cI (c0 n J T) 14 0 2 0 = aS (nA n J 7) 3 0 := (show cI (c0 n J T) 14 0 2 0 = 0 from rfl).trans (show aS (nA n J 7) 3 0 = 0 from rfl).symm
theorem n_s21 {n : Int32} {J : Int64} {T : Nat × Nat} : cI (c0 n J T) 14 0 3 0 = aS (nA n J 7) 21 0 := (show cI (c0 n J T) 14 0 3 0 = 0 from rfl).trans (show aS (nA n J 7) 21 0 = 0 from rfl).symm
theorem n_s22 {n : Int32} {J : Int64} {T : Nat × Nat} : cI (c0 n J T) 14 0 4 0 = aS (nA n J 7) 22 0 := (show cI (c0 n J T) 14 0 4 0 = 0 from rfl).trans (show aS (nA n J 7) 22 0 = 0 from rfl).symm
theorem n_s24 {n : Int32} {J : Int64} {T : Nat × Nat} : cI (c0 n J T) 14 0 5 0 = aS (nA n J 7) 24 0 := (show cI (c0 n J T) 14 0 5 0 = 0 from rfl).trans (show aS (nA n J 7) 24 0 = 0 from rfl).symm
theorem n_s25 {n : Int32} {J : Int64} {T : Nat × Nat} : cI (c0 n J T) 14 0 6 0 = aS (nA n J 7) 25 0 := (show cI (c0 n J T) 14 0 6 0 = 0 from rfl).trans (show aS (nA n J 7) 25 0 = 0 from rfl).symm
theorem n_s26 {n : Int32} {J : Int64} {T : Nat × Nat} : cI (c0 n J T) 14 0 7 0 = aS (nA n J 7) 26 0 := (show cI (c0 n J T) 14 0 7 0 = 0 from rfl).trans (show aS (nA n J 7) 26 0 = 0 from rfl).symm
theorem n_s27 {n : Int32} {J : Int64} {T : Nat × Nat} : cI (c0 n J T) 14 0 8 0 = aS (nA n J 7) 27 0 := (show cI (c0 n J T) 14 0 8 0 = 0 from rfl).trans (show aS (nA n J 7) 27 0 = 0 from rfl).symm
theorem n_s52 {n : Int32} {J : Int64} {T : Nat × Nat} {i : Nat} : cI (c0 n J T) 13 i 8 0 = aS (nA n J 7) 52 i := (show cI (c0 n J T) 13 i 8 0 = 1 from rfl).trans (show aS (nA n J 7) 52 i = 1 from rfl).symm
theorem n_s71 {n : Int32} {J : Int64} {T : Nat × Nat} {i : Nat} : cI (c0 n J T) 13 i 9 0 = aS (nA n J 7) 71 i := (show cI (c0 n J T) 13 i 9 0 = 0 from rfl).trans (show aS (nA n J 7) 71 i = 0 from rfl).symm
theorem n_s53 {n : Int32} {J : Int64} {T : Nat × Nat} {i : Nat} : cI (c0 n J T) 13 i 10 0 = aS (nA n J 7) 53 i := (show cI (c0 n J T) 13 i 10 0 = 0 from rfl).trans (show aS (nA n J 7) 53 i = 0 from rfl).symm
theorem n_s54 {n : Int32} {J : Int64} {T : Nat × Nat} {i : Nat} : cI (c0 n J T) 13 i 11 0 = aS (nA n J 7) 54 i := (show cI (c0 n J T) 13 i 11 0 = (-1) from rfl).trans (show aS (nA n J 7) 54 i = (-1) from rfl).symm
theorem n_s73 {n : Int32} {J : Int64} {T : Nat × Nat} {i : Nat} : cI (c0 n J T) 13 i 12 0 = aS (nA n J 7) 73 i := (show cI (c0 n J T) 13 i 12 0 = 0 from rfl).trans (show aS (nA n J 7) 73 i = 0 from rfl).symm
theorem n_s74 {n : Int32} {J : Int64} {T : Nat × Nat} {i : Nat} : cI (c0 n J T) 13 i 13 0 = aS (nA n J 7) 74 i := (show cI (c0 n J T) 13 i 13 0 = (-1) from rfl).trans (show aS (nA n J 7) 74 i = (-1) from rfl).symm
theorem n_s79 {n : Int32} {J : Int64} {T : Nat × Nat} {i : Nat} : cI (c0 n J T) 13 i 15 0 = aS (nA n J 7) 79 i := (show cI (c0 n J T) 13 i 15 0 = 0 from rfl).trans (show aS (nA n J 7) 79 i = 0 from rfl).symm
theorem n_s69 {n : Int32} {J : Int64} {T : Nat × Nat} {i : Nat} : cI (c0 n J T) 13 i 16 0 = aS (nA n J 7) 69 i := (show cI (c0 n J T) 13 i 16 0 = (-1) from rfl).trans (show aS (nA n J 7) 69 i = (-1) from rfl).symm
theorem n_s55 {n : Int32} {J : Int64} {T : Nat × Nat} {i : Nat} : cI (c0 n J T) 9 i 3 0 = aS (nA n J 7) 55 i := (show cI (c0 n J T) 9 i 3 0 = 0 from rfl).trans (show aS (nA n J 7) 55 i = 0 from rfl).symm
theorem n_s57 {n : Int32} {J : Int64} {T : Nat × Nat} {i : Nat} : cI (c0 n J T) 9 i 4 0 = aS (nA n J 7) 57 i := (show cI (c0 n J T) 9 i 4 0 = 0 from rfl).trans (show aS (nA n J 7) 57 i = 0 from rfl).symm
theorem n_s58 {n : Int32} {J : Int64} {T : Nat × Nat} {i : Nat} : cI (c0 n J T) 9 i 5 0 = aS (nA n J 7) 58 i := (show cI (c0 n J T) 9 i 5 0 = n from rfl).trans (show aS (nA n J 7) 58 i = n from rfl).symm
theorem n_s56 {n : Int32} {J : Int64} {T : Nat × Nat} {i : Nat} : cI (c0 n J T) 9 i 6 0 = aS (nA n J 7) 56 i := (show cI (c0 n J T) 9 i 6 0 = 0 from rfl).trans (show aS (nA n J 7) 56 i = 0 from rfl).symm
theorem n_s65 {n : Int32} {J : Int64} {T : Nat × Nat} {i : Nat} : cI (c0 n J T) 9 i 7 0 = aS (nA n J 7) 65 i := (show cI (c0 n J T) 9 i 7 0 = n from rfl).trans (show aS (nA n J 7) 65 i = n from rfl).symm
theorem n_s64 {n : Int32} {J : Int64} {T : Nat × Nat} {i : Nat} : cI (c0 n J T) 9 i 8 0 = aS (nA n J 7) 64 i := (show cI (c0 n J T) 9 i 8 0 = 0 from rfl).trans (show aS (nA n J 7) 64 i = 0 from rfl).symm
theorem n_s75 {n : Int32} {J : Int64} {T : Nat × Nat} {i : Nat} : cI (c0 n J T) 9 i 9 0 = aS (nA n J 7) 75 i := (show cI (c0 n J T) 9 i 9 0 = 0 from rfl).trans (show aS (nA n J 7) 75 i = 0 from rfl).symm
theorem n_s76 {n : Int32} {J : Int64} {T : Nat × Nat} {i : Nat} : cI (c0 n J T) 9 i 10 0 = aS (nA n J 7) 76 i := (show cI (c0 n J T) 9 i 10 0 = 0 from rfl).trans (show aS (nA n J 7) 76 i = 0 from rfl).symm
theorem n_s77 {n : Int32} {J : Int64} {T : Nat × Nat} {i : Nat} : cI (c0 n J T) 9 i 11 0 = aS (nA n J 7) 77 i := (show cI (c0 n J T) 9 i 11 0 = 0 from rfl).trans (show aS (nA n J 7) 77 i = 0 from rfl).symm
theorem n_s80 {n : Int32} {J : Int64} {T : Nat × Nat} {i : Nat} : cI (c0 n J T) 7 i 10 0 = aS (nA n J 7) 80 i := (show cI (c0 n J T) 7 i 10 0 = (-1) from rfl).trans (show aS (nA n J 7) 80 i = (-1) from rfl).symm
theorem n_s81 {n : Int32} {J : Int64} {T : Nat × Nat} {i : Nat} : cI (c0 n J T) 7 i 11 0 = aS (nA n J 7) 81 i := (show cI (c0 n J T) 7 i 11 0 = 0 from rfl).trans (show aS (nA n J 7) 81 i = 0 from rfl).symm
theorem n_s45 {n : Int32} {J : Int64} {T : Nat × Nat} {i : Nat} : cI (c0 n J T) 6 i 6 0 = aS (nA n J 7) 45 i := (show cI (c0 n J T) 6 i 6 0 = (-1) from rfl).trans (show aS (nA n J 7) 45 i = (-1) from rfl).symm
theorem n_s150 {n : Int32} {J : Int64} {T : Nat × Nat} {i : Nat} : cI (c0 n J T) 6 i 8 0 = aS (nA n J 7) 150 i := (show cI (c0 n J T) 6 i 8 0 = 0 from rfl).trans (show aS (nA n J 7) 150 i = 0 from rfl).symm
theorem n_s47 {n : Int32} {J : Int64} {T : Nat × Nat} {i : Nat} : cI (c0 n J T) 6 i 9 0 = aS (nA n J 7) 47 i := (show cI (c0 n J T) 6 i 9 0 = (-1) from rfl).trans (show aS (nA n J 7) 47 i = (-1) from rfl).symm
theorem n_s151 {n : Int32} {J : Int64} {T : Nat × Nat} {i : Nat} : cI (c0 n J T) 12 i 7 0 = aS (nA n J 7) 151 i := (show cI (c0 n J T) 12 i 7 0 = 0 from rfl).trans (show aS (nA n J 7) 151 i = 0 from rfl).symm
theorem n_s124 {n : Int32} {J : Int64} {T : Nat × Nat} {i : Nat} : cI (c0 n J T) 5 i 3 0 = aS (nA n J 7) 124 i := (show cI (c0 n J T) 5 i 3 0 = 0 from rfl).trans (show aS (nA n J 7) 124 i = 0 from rfl).symm
theorem n_s125 {n : Int32} {J : Int64} {T : Nat × Nat} {i : Nat} : cI (c0 n J T) 5 i 4 0 = aS (nA n J 7) 125 i := (show cI (c0 n J T) 5 i 4 0 = 0 from rfl).trans (show aS (nA n J 7) 125 i = 0 from rfl).symm
theorem n_s126 {n : Int32} {J : Int64} {T : Nat × Nat} {i : Nat} : cI (c0 n J T) 5 i 5 0 = aS (nA n J 7) 126 i := (show cI (c0 n J T) 5 i 5 0 = (-1) from rfl).trans (show aS (nA n J 7) 126 i = (-1) from rfl).symm
theorem n_s127 {n : Int32} {J : Int64} {T : Nat × Nat} {i : Nat} : cI (c0 n J T) 5 i 6 0 = aS (nA n J 7) 127 i := (show cI (c0 n J T) 5 i 6 0 = 0 from rfl).trans (show aS (nA n J 7) 127 i = 0 from rfl).symm
theorem n_s128 {n : Int32} {J : Int64} {T : Nat × Nat} {i : Nat} : cI (c0 n J T) 5 i 7 0 = aS (nA n J 7) 128 i := (show cI (c0 n J T) 5 i 7 0 = 0 from rfl).trans (show aS (nA n J 7) 128 i = 0 from rfl).symm
theorem n_s129 {n : Int32} {J : Int64} {T : Nat × Nat} {i : Nat} : cI (c0 n J T) 5 i 8 0 = aS (nA n J 7) 129 i := (show cI (c0 n J T) 5 i 8 0 = 0 from rfl).trans (show aS (nA n J 7) 129 i = 0 from rfl).symm
theorem n_s141 {n : Int32} {J : Int64} {T : Nat × Nat} : cI (c0 n J T) 4 0 1 0 = aS (nA n J 7) 141 0 := (show cI (c0 n J T) 4 0 1 0 = 0 from rfl).trans (show aS (nA n J 7) 141 0 = 0 from rfl).symm
theorem n_sc {n : Int32} {J : Int64} {T : Nat × Nat} : KSc (c0 n J T) (nA n J 7) := by
  intro x hx i hi
  simp only [sT, List.mem_cons, List.not_mem_nil, or_false] at hx
  rcases hx with rfl | rfl | rfl | rfl | rfl | rfl | rfl | rfl | rfl | rfl | rfl | rfl | rfl | rfl | rfl | rfl | rfl | rfl | rfl | rfl | rfl | rfl | rfl | rfl | rfl | rfl | rfl | rfl | rfl | rfl | rfl | rfl | rfl | rfl | rfl | rfl | rfl | rfl | rfl
  · obtain rfl : i = 0 := (by
      have : i < 1 := hi
      omega)
    exact n_s1
  · obtain rfl : i = 0 := (by
      have : i < 1 := hi
      omega)
    exact n_s2
  · obtain rfl : i = 0 := (by
      have : i < 1 := hi
      omega)
    exact n_s3
  · obtain rfl : i = 0 := (by
      have : i < 1 := hi
      omega)
    exact n_s21
  · obtain rfl : i = 0 := (by
      have : i < 1 := hi
      omega)
    exact n_s22
  · obtain rfl : i = 0 := (by
      have : i < 1 := hi
      omega)
    exact n_s24
  · obtain rfl : i = 0 := (by
      have : i < 1 := hi
      omega)
    exact n_s25
  · obtain rfl : i = 0 := (by
      have : i < 1 := hi
      omega)
    exact n_s26
  · obtain rfl : i = 0 := (by
      have : i < 1 := hi
      omega)
    exact n_s27
  · exact n_s52
  · exact n_s71
  · exact n_s53
  · exact n_s54
  · exact n_s73
  · exact n_s74
  · exact n_s79
  · exact n_s69
  · exact n_s55
  · exact n_s57
  · exact n_s58
  · exact n_s56
  · exact n_s65
  · exact n_s64
  · exact n_s75
  · exact n_s76
  · exact n_s77
  · exact n_s80
  · exact n_s81
  · exact n_s45
  · exact n_s150
  · exact n_s47
  · exact n_s151
  · exact n_s124
  · exact n_s125
  · exact n_s126
  · exact n_s127
  · exact n_s128
  · exact n_s129
  · obtain rfl : i = 0 := (by
      have : i < 1 := hi
      omega)
    exact n_s141
theorem cM_0 : cM (([], []) : AM) = ([], []) := by
  show (List.mergeSort ([] : List AN) _, _) = _
  rw [List.mergeSort_nil]
theorem wf_0 : wfMc (([], []) : AM) := ⟨⟨⟨by decide, by decide⟩, by decide, fun x h => absurd h (List.not_mem_nil), fun x h => absurd h (List.not_mem_nil)⟩, fun x h => absurd h (List.not_mem_nil), List.nodup_nil, List.nodup_nil, fun x h => absurd h (List.not_mem_nil)⟩
theorem KM_0 {n : Int32} {J : Int64} {T : Nat × Nat} {s : Nat} : KM0 (c0 n J T) s ([], []) := by
  refine ⟨rfl, rfl, rfl, fun i h => absurd h (Nat.not_lt_zero _), List.range 128, List.length_range, List.nodup_range, fun k h => List.mem_range.mp h, fun k h => ?_, fun i h => absurd h (Nat.not_lt_zero _)⟩
  rw [List.getD_eq_getElem?_getD, List.getElem?_range h]
  rfl
theorem n_pg {n : Int32} {J : Int64} {T : Nat × Nat} {q : Nat} : PG (c0 n J T) q (fun _ => 0, [], ([], [])) := ⟨rfl, rfl, rfl, rfl, rfl, rfl, fun i h => absurd h (Nat.not_lt_zero _), Nat.zero_le _, rfl, Or.inl rfl, Nat.zero_le _, fun e h => absurd h (List.not_mem_nil)⟩
theorem n_kp {n : Int32} {J : Int64} {T : Nat × Nat} {s : Nat} : KPg (c0 n J T) s (fun _ => (fun _ => 0, [], ([], []))) (fun _ => (fun _ => 0, [], ([], []))) := fun f _ => ⟨n_pg, n_pg, fun _ _ => ⟨0, rfl, Nat.zero_le _, Nat.zero_le _, rfl⟩, fun _ => ⟨rfl, fun z => absurd (show (0 : Int32) = 1 from z) (by decide)⟩, fun _ => ⟨rfl, rfl⟩⟩
theorem n_bl {n : Int32} {J : Int64} {T : Nat × Nat} : KBl (c0 n J T) (nA n J 7) := by
  intro b hb
  by_cases h7 : b < 7
  · have eN : aBn (nA n J 7) b = Int32.ofNat b := by
      unfold aBn
      rw [if_pos (by omega)]
      show (if 29 = 29 ∧ b < 7 then Int32.ofNat b else if 29 = 30 ∧ b < 7 then nwT J b else if 29 = 2 ∧ b = 0 then Int32.ofNat 7 else nB n 29 b) = _
      rw [if_pos ⟨rfl, h7⟩]
    have eT : aBt (nA n J 7) b = nwT J b := by
      unfold aBt
      rw [if_pos (by omega)]
      show (if 30 = 29 ∧ b < 7 then Int32.ofNat b else if 30 = 30 ∧ b < 7 then nwT J b else if 30 = 2 ∧ b = 0 then Int32.ofNat 7 else nB n 30 b) = _
      rw [if_neg (fun z => absurd z.1 (by decide)), if_pos ⟨rfl, h7⟩]
    have e1 : cI (c0 n J T) 14 0 10 b = nwT J b := by
      show vI (stT J 7 b) = _
      rw [stT_v 7 b h7, dt_e]
      rfl
    have e2 : cI (c0 n J T) 14 0 11 b = Int32.ofNat b := by
      show vI (stO 7 b) = _
      rw [stO_v 7 b h7]
      rfl
    rw [eN, eT, e1, e2]
    refine ⟨fun _ => ⟨?_, rfl, rfl⟩, fun z => ?_⟩
    · rw [Int32.le_iff_toInt_le, i_0]
      exact nwT_b.1
    · exfalso
      rw [Int32.lt_iff_toInt_lt, i_0, Int32.toInt_ofNat_of_lt (show b < 2 ^ 31 by omega)] at z
      omega
  · have eN : aBn (nA n J 7) b = -1 := by
      unfold aBn
      by_cases q : b < 16
      · rw [if_pos q]
        show (if 29 = 29 ∧ b < 7 then Int32.ofNat b else if 29 = 30 ∧ b < 7 then nwT J b else if 29 = 2 ∧ b = 0 then Int32.ofNat 7 else nB n 29 b) = _
        rw [if_neg (fun z => h7 z.2), if_neg (fun z => absurd z.1 (by decide)), if_neg (fun z => absurd z.1 (by decide))]
        rfl
      · rw [if_neg q]
        rfl
    rw [eN]
    refine ⟨fun z => absurd z (by decide), fun _ => ?_⟩
    show vI (stT J 7 b) = _
    rw [stT_w 7 b (by omega) hb]
    rfl
theorem n_da {n : Int32} {J : Int64} {T : Nat × Nat} : KDa (c0 n J T) (nA n J 7) := by
  refine ⟨fun k _ => ?_, fun s _ => ?_, fun s h => ?_, ?_⟩
  · exact (show cI (c0 n J T) 14 0 12 k = 3 from rfl).trans (show aS (nA n J 7) 23 k = 3 from rfl).symm
  · exact (show cI (c0 n J T) 14 0 13 s = 2 from rfl).trans (show aS (nA n J 7) 72 s = 2 from rfl).symm
  rotate_left
  · exact (show cJ (c0 n J T) 14 0 9 0 = 0 from rfl).trans (show (nA n J 7).1.2 28 0 = 0 from rfl).symm
  have e : (nA n J 7).1.2 84 s = aLcg (nL0 J 84 s) := if_pos ⟨rfl, h⟩
  have e2 : cJ (c0 n J T) 14 0 14 s = vJ (stS J 7 s) := rfl
  rw [e, e2, stS_v 7 s h, nL_e]
  exact dl_e
theorem z_sum {N : Nat} : sumN (fun _ => 0) N = 0 := by
  induction N with
  | zero => rfl
  | succ N ih => exact ih
theorem n_nc {n : Int32} {J : Int64} {T : Nat × Nat} {x : Nat} : nC (c0 n J T) [] x = 0 := rfl
theorem n_nl {n : Int32} {J : Int64} {T : Nat × Nat} : nL (c0 n J T) [] = 0 := rfl
theorem n_lt {n : Int32} {J : Int64} {T : Nat × Nat} : KLt (c0 n J T) (nA n J 7) [] := by
  refine ⟨fun x => ?_, True.intro, fun s _ => True.intro, fun x h => absurd h (List.not_mem_nil), Nat.zero_le _, fun s _ => Nat.zero_le _, List.Pairwise.nil⟩
  rw [n_nc]
  exact ⟨Nat.zero_le _, fun z => absurd z (Nat.lt_irrefl _)⟩
theorem n_rm {n : Int32} {J : Int64} {T : Nat × Nat} : KRm (c0 n J T) (([], fun _ => 0), T) := by
  refine ⟨?_, ?_, ?_, fun i _ => ⟨Nat.zero_le _, Nat.zero_le _, Nat.zero_le _⟩, fun s _ => ⟨Nat.zero_le _, Nat.zero_le _, Or.inl rfl, Nat.zero_le _⟩, show 640 ≤ 21000 by decide, show 2048 ≤ 500000 by decide, ⟨Or.inl rfl, Nat.zero_le _⟩, ⟨Or.inl rfl, Nat.zero_le _⟩⟩
  · show 16 * T.1 ≤ 16 * T.1 + _ + _
    omega
  · show T.2 ≤ T.2 + _ + _
    omega
  · rw [n_nl]
    decide
theorem n_hd {n : Int32} {J : Int64} {T : Nat × Nat} {s : Nat} : KHd (c0 n J T) s (aS (nA n J 7) 78 s) := by
  have e : aS (nA n J 7) 78 s = -2000000000 := rfl
  have e2 : cI (c0 n J T) 13 s 14 0 = -1 := rfl
  unfold KHd
  rw [e, e2, if_pos rfl]
theorem n_ak {n : Int32} {J : Int64} {T : Nat × Nat} : KAk (c0 n J T) (aAk (nA n J 7)) := ⟨rfl, Nat.zero_le _, rfl, Nat.zero_le _, Nat.zero_le _, fun k h => absurd h (List.not_mem_nil), fun j h => absurd h (Nat.not_lt_zero _)⟩
theorem n_rq {n : Int32} {J : Int64} {T : Nat × Nat} {s : Nat} : KRq (c0 n J T) s (aS (nA n J 7) 151 s) (aRq (nA n J 7) s) := ⟨0, rfl, by decide, List.Pairwise.nil, fun q h => absurd h (List.not_mem_nil), fun w _ => rfl, rfl⟩
theorem n_fc {n : Int32} {J : Int64} {T : Nat × Nat} : KFc (c0 n J T) (aTp (nA n J 7)) (aRe (nA n J 7)) := ⟨rfl, Nat.zero_le _, fun i h => absurd h (Nat.not_lt_zero _), rfl, Nat.zero_le _, fun i h => absurd h (Nat.not_lt_zero _)⟩
theorem n_nw {n : Int32} {J : Int64} : nwOK (nA n J 7) := by
  have e1 : aNow (nA n J 7) = 0 := rfl
  have e2 : ∀ s, aS (nA n J 7) 72 s = 2 := fun s => rfl
  have e3 : ∀ s, aS (nA n J 7) 71 s = 0 := fun s => rfl
  have e4 : aS (nA n J 7) 27 0 = 0 := rfl
  unfold nwOK
  rw [e1, e4]
  refine ⟨by decide, by decide, fun s _ => ?_, fun s _ => Or.inl (e3 s), by decide, by decide⟩
  rw [e2]
  decide
theorem n_145 {n : Int32} {J : Int64} : aS (nA n J 7) 145 0 = n := by
  show (if 145 = 29 ∧ 0 < 7 then Int32.ofNat 0 else if 145 = 30 ∧ 0 < 7 then nwT J 0 else if 145 = 2 ∧ 0 = 0 then Int32.ofNat 7 else nB n 145 0) = n
  rw [if_neg (by decide), if_neg (by decide), if_neg (by decide)]
  unfold nB
  rw [if_neg (by decide), if_neg (by decide), if_neg (by decide), if_pos (by decide)]
theorem n_id {n : Int32} {J : Int64} {T : Nat × Nat} {s : Nat} : KId (c0 n J T) s (aS (nA n J 7) 145 0) 0 := by
  rw [n_145]
  exact ⟨rfl, rfl, rfl⟩
theorem n_lw {n : Int32} {J : Int64} {T : Nat × Nat} {s : Nat} : KLw (c0 n J T) (nA n J 7) s := fun f _ => (show cI (c0 n J T) 6 s 2 f = 0 from rfl).trans (show aS (nA n J 7) 43 (16 * s + f) = 0 from rfl).symm
theorem n_up {n : Int32} {J : Int64} {T : Nat × Nat} {s : Nat} : cI (c0 n J T) 6 s 7 0 = aS (nA n J 7) 46 s := (show cI (c0 n J T) 6 s 7 0 = 0 from rfl).trans (show aS (nA n J 7) 46 s = 0 from rfl).symm
theorem n_ld {n : Int32} {J : Int64} {s : Nat} : aS (nA n J 7) 73 s = 0 := rfl
theorem n_cl {n : Int32} {J : Int64} {k : Nat} : aS (nA n J 7) 124 k = 0 := rfl
theorem n_pb {n : Int32} {J : Int64} {k : Nat} : aS (nA n J 7) 69 k = -1 := rfl
theorem n_sh {n : Int32} {J : Int64} {s : Nat} : shOK (nA n J 7) s := Or.inl ⟨(show aS (nA n J 7) 47 s = -1 from rfl), (show aS (nA n J 7) 67 s = 0 from rfl), rfl⟩
theorem S1m {n : Int32} {J : Int64} {T : Nat × Nat} : RC (c0 n J T) (nA n J 7) (([], fun _ => 0), T) := by
  refine ⟨n_sc, fun s _ _ => n_up, fun s _ => n_hd, fun s _ h => ?_, fun s _ _ => n_rq, n_bl, n_da, fun s _ => n_lw, fun s _ => ⟨fun i h => absurd h (Nat.not_lt_zero _), fun e h => absurd h (List.not_mem_nil)⟩, fun s _ => n_kp, fun s _ => ⟨rfl, Nat.zero_le _, fun i h => absurd h (Nat.not_lt_zero _)⟩, fun s _ => ⟨wf_0, ?_⟩, fun s _ => Or.inl n_pb, fun k _ => Or.inl n_cl, fun k _ => ⟨rfl, Nat.zero_le _, fun i h => absurd h (Nat.not_lt_zero _)⟩, n_ak, n_fc, fun s _ => n_id, fun k _ => (Int32.ofNat_add 8 k).symm, n_lt, n_rm, fun s _ _ => n_sh, n_nw⟩
  · rw [n_ld] at h
    exact absurd h (by decide)
  · have e : (cM (aMc (nA n J 7) s)) = ([], []) := cM_0
    rw [e]
    exact KM_0
theorem S1 {n : Int32} {J : Int64} {T : Nat × Nat} : RC (c0 (stm n) J T) (A_new n J) (([], fun _ => 0), T) := by
  rw [stm_e, new_e]
  exact S1m
