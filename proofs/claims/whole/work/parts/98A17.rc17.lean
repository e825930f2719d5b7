/-! sets of servers, majorities -/
theorem aIn_b {x : Int32} {p : Nat} (hp : p < 32) : aIn x p = x.toBitVec.getLsbD p := by
  have h1 : ((Int32.ofNat p).toBitVec.smod 32).toNat = p := (by decide +kernel : ∀ p, p < 32 → ((Int32.ofNat p).toBitVec.smod 32).toNat = p) p hp
  have h2 : (x >>> Int32.ofNat p).toBitVec = x.toBitVec.sshiftRight p := by
    rw [Int32.toBitVec_shiftRight]
    show x.toBitVec.sshiftRight ((Int32.ofNat p).toBitVec.smod 32).toNat = _
    rw [h1]
  have h3 : ∀ y : Int32, decide (y &&& 1 = 1) = y.toBitVec.getLsbD 0 := by
    intro y
    have e : (y &&& 1).toBitVec.toNat = y.toBitVec.toNat % 2 := by
      rw [Int32.toBitVec_and, BitVec.toNat_and]
      show y.toBitVec.toNat &&& 1 = _
      exact Nat.and_one_is_mod _
    have e2 : y.toBitVec.getLsbD 0 = decide (y.toBitVec.toNat % 2 = 1) := by
      show y.toBitVec.toNat.testBit 0 = _
      exact Nat.testBit_zero _
    rw [e2]
    by_cases q : y.toBitVec.toNat % 2 = 1
    · rw [decide_eq_true q]
      apply decide_eq_true
      apply Int32.toBitVec_inj.mp
      apply BitVec.eq_of_toNat_eq
      rw [e, q]
      rfl
    · rw [decide_eq_false q]
      apply decide_eq_false
      intro z
      rw [z] at e
      exact q (e.symm.trans rfl)
  unfold aIn
  rw [h3, h2, BitVec.getLsbD_sshiftRight]
  simp only [Nat.add_zero, hp, if_true]
  rfl
theorem aIn_and {x y : Int32} {p : Nat} (hp : p < 32) : aIn (x &&& y) p = (aIn x p && aIn y p) := by
  rw [aIn_b hp, aIn_b hp, aIn_b hp, Int32.toBitVec_and, BitVec.getLsbD_and]
theorem aIn_or {x y : Int32} {p : Nat} (hp : p < 32) : aIn (x ||| y) p = (aIn x p || aIn y p) := by
  rw [aIn_b hp, aIn_b hp, aIn_b hp, Int32.toBitVec_or, BitVec.getLsbD_or]
theorem aIn_1 : ∀ p, p < 7 → ∀ q, q < 32 → aIn (1 <<< Int32.ofNat p) q = decide (q = p) := by decide +kernel
theorem aIn_n : ∀ s, s < 7 → ∀ p, p < 7 → aIn ((1 <<< (Int32.ofNat s &&& 31)) ^^^ (-1)) p = !decide (p = s) := by decide +kernel
theorem aIn_127 : ∀ p, p < 7 → aIn 127 p = true := by decide +kernel
theorem aIn_m {x : Int32} {p : Nat} (hp : p < 7) : aIn (x &&& 127) p = aIn x p := by rw [aIn_and (by omega), aIn_127 p hp, Bool.and_true]
theorem and127 (x : Int32) : ∃ n, n < 128 ∧ x &&& 127 = Int32.ofNat n := by
  have e : (x &&& 127).toBitVec = x.toBitVec &&& 127#32 := Int32.toBitVec_and _ _
  have h : (x.toBitVec &&& 127#32).toNat < 128 := by
    rw [BitVec.toNat_and]
    exact Nat.lt_of_le_of_lt Nat.and_le_right (by decide)
  refine ⟨_, h, ?_⟩
  apply Int32.toInt_inj.mp
  rw [Int32.toInt_ofNat_of_lt (by omega)]
  show (x &&& 127).toBitVec.toInt = _
  rw [e, BitVec.toInt_eq_toNat_of_lt (by omega)]
theorem and127b (x y : Int32) : ∃ n, n < 128 ∧ x &&& (y &&& 127) = Int32.ofNat n := by
  rw [← Int32.and_assoc]
  exact and127 _
def cZ : CS := (fun _ _ _ _ => 0, fun _ _ _ _ => 0, fun _ _ _ => 0, fun _ _ _ => [], fun _ => false, (0, 0))
theorem bc_n : ∀ n, n < 128 → k_Integer_bitCount cZ (Int32.ofNat n) = some (Int32.ofNat (aCnt (Int32.ofNat n))) := by decide +kernel
theorem K_bits {c : CS} {x : Int32} {n : Nat} (hn : n < 128) (hx : x = Int32.ofNat n) : k_Integer_bitCount c x = some (Int32.ofNat (aCnt x)) := by
  subst hx
  exact bc_n n hn
theorem sh7 {c : Int32} : c >>> ((7 : Int32) &&& 31) = c >>> 7 := rfl
theorem sh14 {c : Int32} : c >>> ((14 : Int32) &&& 31) = c >>> 14 := rfl
theorem K_isMajority {c : CS} {a : AA} {v : CV} {s : Nat} {x : Int32} (h : RC c a v) (hs : s < 7) : k_Server_isMajority c s x = some (aB (aMaj (aS a 65 s) x)) := by
  unfold k_Server_isMajority k_Server_isMajority_b0 k_Server_isMajority_b59 k_Server_isMajority_b63 k_Server_isMajority_b64
  rw [K_r h (F := 65) (cl := 9) (f := 7) (by decide) hs, if_pos (Or.inl rfl), if_pos (Or.inr rfl)]
  obtain ⟨n1, b1, e1⟩ := and127b x (aS a 65 s)
  obtain ⟨n2, b2, e2⟩ := and127 (aS a 65 s)
  obtain ⟨n3, b3, e3⟩ := and127b x (aS a 65 s >>> ((7 : Int32) &&& 31))
  obtain ⟨n4, b4, e4⟩ := and127 (aS a 65 s >>> ((7 : Int32) &&& 31))
  rw [K_bits b1 e1, K_bits b2 e2, Option.bind_some, Option.bind_some, K_bits b3 e3, K_bits b4 e4, Option.bind_some, Option.bind_some]
  have c1 : ∀ y z : Int32, xc2 ClassFile.Cond.le (2 * Int32.ofNat (aCnt y)) (Int32.ofNat (aCnt z)) = true ↔ ¬ aCnt z < 2 * aCnt y := by
    intro y z
    have := aCnt_le (x := y)
    have := aCnt_le (x := z)
    rw [i_2, i_lei (by omega) (by omega)]
    omega
  have em : aMaj (aS a 65 s) x = (decide (aCnt (aS a 65 s &&& 127) < 2 * aCnt (x &&& (aS a 65 s &&& 127))) && (decide ((aS a 65 s >>> ((7 : Int32) &&& 31)) &&& 127 = 0) || decide (aCnt ((aS a 65 s >>> ((7 : Int32) &&& 31)) &&& 127) < 2 * aCnt (x &&& ((aS a 65 s >>> ((7 : Int32) &&& 31)) &&& 127))))) := rfl
  rw [em]
  by_cases q1 : aCnt (aS a 65 s &&& 127) < 2 * aCnt (x &&& (aS a 65 s &&& 127))
  · rw [if_neg (fun z => (c1 _ _).mp z q1), decide_eq_true q1, Bool.true_and]
    by_cases q2 : (aS a 65 s >>> ((7 : Int32) &&& 31)) &&& 127 = 0
    · rw [if_pos (c0_eq.mpr q2), decide_eq_true q2, Bool.true_or]
      rfl
    · rw [if_neg (fun z => q2 (c0_eq.mp z)), decide_eq_false q2, Bool.false_or]
      by_cases q3 : aCnt ((aS a 65 s >>> ((7 : Int32) &&& 31)) &&& 127) < 2 * aCnt (x &&& ((aS a 65 s >>> ((7 : Int32) &&& 31)) &&& 127))
      · rw [if_neg (fun z => (c1 _ _).mp z q3), decide_eq_true q3]
        rfl
      · rw [if_pos ((c1 _ _).mpr q3), decide_eq_false q3]
        rfl
  · rw [if_pos ((c1 _ _).mpr q1), decide_eq_false q1, Bool.false_and]
    rfl
theorem K_voters {c : CS} {a : AA} {v : CV} {s : Nat} (h : RC c a v) (hs : s < 7) : ∃ x, k_Server_voters c s = some x ∧ ∀ p, p < 7 → aIn x p = aVoter a s p := by
  refine ⟨_, rfl, fun p hp => ?_⟩
  rw [K_r h (F := 65) (cl := 9) (f := 7) (by decide) hs, aIn_m hp, aIn_or (by omega)]
  unfold aVoter aVoters aOldM aNewM
  rw [aIn_or (by omega), aIn_m hp, aIn_m hp]
  rfl
theorem K_peers {c : CS} {a : AA} {v : CV} {s : Nat} (h : RC c a v) (hs : s < 7) : ∃ x, k_Server_peers c s = some x ∧ ∀ p, p < 7 → aIn x p = aPeer a s p := by
  refine ⟨_, rfl, fun p hp => ?_⟩
  rw [K_r h (F := 65) (cl := 9) (f := 7) (by decide) hs, RC_b1 h hs, aIn_and (by omega), aIn_n s hs p hp, aIn_m hp, aIn_or (by omega), aIn_or (by omega)]
  unfold aPeer aVoters aOldM aNewM aLearn
  rw [aIn_or (by omega), aIn_or (by omega), aIn_m hp, aIn_m hp, aIn_m hp, Bool.and_comm]
  rfl
/-- whether a bit is set, as the class looks -/
theorem bit_k {x : Int32} {p : Nat} (hp : p < 7) : xc0 ClassFile.Cond.eq ((x >>> (Int32.ofNat p &&& 31)) &&& 1) = true ↔ aIn x p = false := by
  rw [i_31 (by omega), b_bit, c0_eq]
  cases aIn x p
  · exact ⟨fun _ => rfl, fun _ => rfl⟩
  · exact ⟨fun z => absurd z (by decide), fun z => by cases z⟩
/-! the greatest number that a majority has -/
def kCn (x : Nat → Int32) (v set : Int32) : Nat → Nat
  | 0 => 0
  | p + 1 => kCn x v set p + if aIn set p = true ∧ v ≤ x p then 1 else 0
def kMost (x : Nat → Int32) (set : Int32) : Nat → Int32
  | 0 => -2147483648
  | p + 1 => if aIn set p = true ∧ kMost x set p < x p ∧ aCnt set < 2 * kCn x (x p) set 7 then x p else kMost x set p
theorem kCn_le {x : Nat → Int32} {v set : Int32} : ∀ n, kCn x v set n ≤ aCntN set n := by
  intro n
  induction n with
  | zero => exact Nat.zero_le _
  | succ n ih =>
    rw [aCntN_s]
    show kCn x v set n + (if aIn set n = true ∧ v ≤ x n then 1 else 0) ≤ _
    by_cases q : aIn set n = true
    · rw [if_pos q]
      split <;> omega
    · rw [if_neg q, if_neg (fun z => q z.1)]
      omega
theorem kCn_mono {x : Nat → Int32} {v w set : Int32} (h : w ≤ v) : ∀ n, kCn x v set n ≤ kCn x w set n := by
  intro n
  induction n with
  | zero => exact Nat.le_refl _
  | succ n ih =>
    show kCn x v set n + (if aIn set n = true ∧ v ≤ x n then 1 else 0) ≤ kCn x w set n + (if aIn set n = true ∧ w ≤ x n then 1 else 0)
    by_cases q : aIn set n = true ∧ v ≤ x n
    · rw [if_pos q, if_pos ⟨q.1, i_trans h q.2⟩]
      omega
    · rw [if_neg q]
      split <;> omega
theorem kCn_all {x : Nat → Int32} {v set : Int32} (h : ∀ p, p < 7 → aIn set p = true → v ≤ x p) : ∀ n, n ≤ 7 → kCn x v set n = aCntN set n := by
  intro n
  induction n with
  | zero => exact fun _ => rfl
  | succ n ih =>
    intro hn
    rw [aCntN_s, ← ih (by omega)]
    show kCn x v set n + (if aIn set n = true ∧ v ≤ x n then 1 else 0) = _
    by_cases q : aIn set n = true
    · rw [if_pos q, if_pos ⟨q, h n (by omega) q⟩]
    · rw [if_neg q, if_neg (fun z => q z.1)]
theorem aIn_reach {x : Nat → Int32} {v : Int32} : ∀ n, n ≤ 7 → ∀ q, q < 7 → aIn (aReach x v n) q = (decide (q < n) && decide (v ≤ x q)) := by
  intro n
  induction n with
  | zero =>
    intro _ q hq
    show aIn 0 q = _
    rw [(by decide +kernel : ∀ q, q < 7 → aIn 0 q = false) q hq]
    simp
  | succ n ih =>
    intro hn q hq
    rw [aReach_s]
    have i := ih (by omega) q hq
    by_cases z : v ≤ x n
    · rw [if_pos z, aIn_or (by omega), i, aIn_1 n (by omega) q (by omega)]
      by_cases w : q = n
      · subst w
        simp [z]
      · rw [decide_eq_false w, Bool.or_false]
        congr 1
        by_cases y : q < n
        · rw [decide_eq_true y, decide_eq_true (by omega : q < n + 1)]
        · rw [decide_eq_false y, decide_eq_false (by omega : ¬ q < n + 1)]
    · rw [if_neg z, i]
      by_cases w : q = n
      · subst w
        simp [z]
      · congr 1
        by_cases y : q < n
        · rw [decide_eq_true y, decide_eq_true (by omega : q < n + 1)]
        · rw [decide_eq_false y, decide_eq_false (by omega : ¬ q < n + 1)]
theorem cnt_reach {x : Nat → Int32} {v set : Int32} : aCnt (aReach x v 7 &&& set) = kCn x v set 7 := by
  have key : ∀ n, n ≤ 7 → aCntN (aReach x v 7 &&& set) n = kCn x v set n := by
    intro n
    induction n with
    | zero => exact fun _ => rfl
    | succ n ih =>
      intro hn
      rw [aCntN_s, ih (by omega), aIn_and (by omega), aIn_reach 7 (by omega) n (by omega), decide_eq_true (show n < 7 by omega), Bool.true_and]
      show _ = kCn x v set n + if aIn set n = true ∧ v ≤ x n then 1 else 0
      congr 1
      by_cases q1 : v ≤ x n <;> by_cases q2 : aIn set n = true <;> simp [q1, q2]
  exact key 7 (Nat.le_refl _)
theorem kMost_1 {x : Nat → Int32} {set : Int32} : ∀ n, n ≤ 7 → (∀ p, p < n → aIn set p = true → aCnt set < 2 * kCn x (x p) set 7 → x p ≤ kMost x set n) ∧ (kMost x set n = -2147483648 ∨ ∃ p, p < n ∧ aIn set p = true ∧ aCnt set < 2 * kCn x (x p) set 7 ∧ kMost x set n = x p) := by
  intro n
  induction n with
  | zero => exact fun _ => ⟨fun p hp => by omega, Or.inl rfl⟩
  | succ n ih =>
    intro hn
    obtain ⟨h1, h2⟩ := ih (by omega)
    have e : kMost x set (n + 1) = if aIn set n = true ∧ kMost x set n < x n ∧ aCnt set < 2 * kCn x (x n) set 7 then x n else kMost x set n := rfl
    rw [e]
    by_cases q : aIn set n = true ∧ kMost x set n < x n ∧ aCnt set < 2 * kCn x (x n) set 7
    · rw [if_pos q]
      refine ⟨fun p hp a1 a2 => ?_, Or.inr ⟨n, by omega, q.1, q.2.2, rfl⟩⟩
      by_cases w : p = n
      · rw [w]
        rw [Int32.le_iff_toInt_le]
        omega
      · have := h1 p (by omega) a1 a2
        have := q.2.1
        rw [Int32.le_iff_toInt_le] at *
        rw [Int32.lt_iff_toInt_lt] at *
        omega
    · rw [if_neg q]
      refine ⟨fun p hp a1 a2 => ?_, h2.imp id (fun ⟨p, p1, p2⟩ => ⟨p, by omega, p2⟩)⟩
      by_cases w : p = n
      · subst w
        by_cases y : kMost x set p < x p
        · exact absurd ⟨a1, y, a2⟩ q
        · exact i_nlt.mp y
      · exact h1 p (by omega) a1 a2
theorem aCommon_1 {x : Nat → Int32} {c : Int32} : ∀ n, n ≤ 7 → (∀ p, p < n → aMaj c (aReach x (x p) 7) = true → x p ≤ aCommon c x n) ∧ (aCommon c x n = -2147483647 ∨ ∃ p, p < n ∧ aMaj c (aReach x (x p) 7) = true ∧ aCommon c x n = x p) := by
  intro n
  induction n with
  | zero => exact fun _ => ⟨fun p hp => by omega, Or.inl rfl⟩
  | succ n ih =>
    intro hn
    obtain ⟨h1, h2⟩ := ih (by omega)
    rw [aCommon_s]
    by_cases q : aCommon c x n < x n ∧ aMaj c (aReach x (x n) 7) = true
    · rw [if_pos q]
      refine ⟨fun p hp a2 => ?_, Or.inr ⟨n, by omega, q.2, rfl⟩⟩
      by_cases w : p = n
      · rw [w]
        rw [Int32.le_iff_toInt_le]
        omega
      · have := h1 p (by omega) a2
        have := q.1
        rw [Int32.le_iff_toInt_le] at *
        rw [Int32.lt_iff_toInt_lt] at *
        omega
    · rw [if_neg q]
      refine ⟨fun p hp a2 => ?_, h2.imp id (fun ⟨p, p1, p2⟩ => ⟨p, by omega, p2⟩)⟩
      by_cases w : p = n
      · subst w
        by_cases y : aCommon c x p < x p
        · exact absurd ⟨y, a2⟩ q
        · exact i_nlt.mp y
      · exact h1 p (by omega) a2
/-- in a set with somebody there is one whose number a majority has -/
theorem kMost_ex {x : Nat → Int32} {set : Int32} (h : ∃ p, p < 7 ∧ aIn set p = true) : ∃ p, p < 7 ∧ aIn set p = true ∧ aCnt set < 2 * kCn x (x p) set 7 ∧ kMost x set 7 = x p := by
  have hmin : ∀ n, n ≤ 7 → (∃ p, p < n ∧ aIn set p = true) → ∃ p, p < n ∧ aIn set p = true ∧ ∀ q, q < n → aIn set q = true → x p ≤ x q := by
    intro n
    induction n with
    | zero => intro _ ⟨p, p1, _⟩; omega
    | succ n ih =>
      intro hn ⟨p, p1, p2⟩
      by_cases q : ∃ p, p < n ∧ aIn set p = true
      · obtain ⟨m, m1, m2, m3⟩ := ih (by omega) q
        by_cases z : aIn set n = true ∧ x n < x m
        · refine ⟨n, by omega, z.1, fun y hy ay => ?_⟩
          by_cases w : y = n
          · rw [w, Int32.le_iff_toInt_le]
            omega
          · have := m3 y (by omega) ay
            have := z.2
            rw [Int32.le_iff_toInt_le] at *
            rw [Int32.lt_iff_toInt_lt] at *
            omega
        · refine ⟨m, by omega, m2, fun y hy ay => ?_⟩
          by_cases w : y = n
          · rw [w] at ay ⊢
            exact i_nlt.mp (fun r => z ⟨ay, r⟩)
          · exact m3 y (by omega) ay
      · have : p = n := by
          rcases Nat.lt_or_ge p n with z | z
          · exact absurd ⟨p, z, p2⟩ q
          · omega
        subst this
        refine ⟨p, by omega, p2, fun y hy ay => ?_⟩
        have : y = p := by
          rcases Nat.lt_or_ge y p with z | z
          · exact absurd ⟨y, z, ay⟩ q
          · omega
        rw [this, Int32.le_iff_toInt_le]
        omega
  obtain ⟨m, m1, m2, m3⟩ := hmin 7 (Nat.le_refl _) h
  have h1 : kCn x (x m) set 7 = aCntN set 7 := kCn_all (fun p hp ap => m3 p hp ap) 7 (Nat.le_refl _)
  have h2 : 0 < aCnt set := by
    obtain ⟨p, p1, p2⟩ := h
    unfold aCnt
    exact List.length_pos_iff.mpr (List.ne_nil_of_mem (List.mem_filter.mpr ⟨List.mem_range.mpr p1, p2⟩))
  have h3 : aCnt set < 2 * kCn x (x m) set 7 := by
    rw [h1]
    show aCnt set < 2 * aCnt set
    omega
  obtain ⟨k1, k2⟩ := kMost_1 (x := x) (set := set) 7 (Nat.le_refl _)
  have h4 := k1 m m1 m2 h3
  rcases k2 with k2 | k2
  · refine ⟨m, m1, m2, h3, ?_⟩
    rw [k2] at h4 ⊢
    apply Int32.toInt_inj.mp
    have e : (-2147483648 : Int32).toInt = -2147483648 := by decide
    have := Int32.le_toInt (x m)
    rw [Int32.le_iff_toInt_le] at h4
    omega
  · exact k2
theorem maj_reach {x : Nat → Int32} {c v : Int32} : aMaj c (aReach x v 7) = true ↔ aCnt (aOldM c) < 2 * kCn x v (aOldM c) 7 ∧ (aNewM c = 0 ∨ aCnt (aNewM c) < 2 * kCn x v (aNewM c) 7) := by
  unfold aMaj
  rw [cnt_reach, cnt_reach, Bool.and_eq_true, Bool.or_eq_true, decide_eq_true_iff, decide_eq_true_iff, decide_eq_true_iff]
/-- both ways to the number that a majority has -/
theorem most_common {x : Nat → Int32} {c : Int32} (ho : ∃ p, p < 7 ∧ aIn (aOldM c) p = true) (hx : ∀ p, p < 7 → 0 ≤ x p) : aCommon c x 7 = if aNewM c = 0 then kMost x (aOldM c) 7 else cmin (kMost x (aOldM c) 7) (kMost x (aNewM c) 7) := by
  obtain ⟨c1, c2⟩ := aCommon_1 (x := x) (c := c) 7 (Nat.le_refl _)
  obtain ⟨p, p1, p2, p3, p4⟩ := kMost_ex (x := x) ho
  obtain ⟨o1, _⟩ := kMost_1 (x := x) (set := aOldM c) 7 (Nat.le_refl _)
  have lt0 : ∀ q, q < 7 → (-2147483647 : Int32) < x q := by
    intro q hq
    have := hx q hq
    rw [Int32.le_iff_toInt_le] at this
    rw [Int32.lt_iff_toInt_lt]
    have e1 : (0 : Int32).toInt = 0 := by decide
    have e2 : (-2147483647 : Int32).toInt = -2147483647 := by decide
    omega
  -- a number that a majority of a set has is not above the greatest of those of its own
  have up : ∀ set : Int32, (∃ p, p < 7 ∧ aIn set p = true) → ∀ v : Int32, aCnt set < 2 * kCn x v set 7 → v ≤ kMost x set 7 := by
    intro set hset v hv
    have h0 : 0 < kCn x v set 7 := by omega
    -- the least number of the set that is not below v
    have hm : ∃ q, q < 7 ∧ aIn set q = true ∧ v ≤ x q ∧ ∀ r, r < 7 → aIn set r = true → v ≤ x r → x q ≤ x r := by
      have hmin : ∀ n, n ≤ 7 → (∃ p, p < n ∧ aIn set p = true ∧ v ≤ x p) → ∃ p, p < n ∧ aIn set p = true ∧ v ≤ x p ∧ ∀ q, q < n → aIn set q = true → v ≤ x q → x p ≤ x q := by
        intro n
        induction n with
        | zero => intro _ ⟨p, p1, _⟩; omega
        | succ n ih =>
          intro hn ⟨p, p1, p2, p3⟩
          by_cases q : ∃ p, p < n ∧ aIn set p = true ∧ v ≤ x p
          · obtain ⟨m, m1, m2, m3, m4⟩ := ih (by omega) q
            by_cases z : aIn set n = true ∧ v ≤ x n ∧ x n < x m
            · refine ⟨n, by omega, z.1, z.2.1, fun y hy ay by' => ?_⟩
              by_cases w : y = n
              · rw [w, Int32.le_iff_toInt_le]
                omega
              · have := m4 y (by omega) ay by'
                have := z.2.2
                rw [Int32.le_iff_toInt_le] at *
                rw [Int32.lt_iff_toInt_lt] at *
                omega
            · refine ⟨m, by omega, m2, m3, fun y hy ay by' => ?_⟩
              by_cases w : y = n
              · rw [w] at ay by' ⊢
                exact i_nlt.mp (fun r => z ⟨ay, by', r⟩)
              · exact m4 y (by omega) ay by'
          · have : p = n := by
              rcases Nat.lt_or_ge p n with z | z
              · exact absurd ⟨p, z, p2, p3⟩ q
              · omega
            subst this
            refine ⟨p, by omega, p2, p3, fun y hy ay by' => ?_⟩
            have : y = p := by
              rcases Nat.lt_or_ge y p with z | z
              · exact absurd ⟨y, z, ay, by'⟩ q
              · omega
            rw [this, Int32.le_iff_toInt_le]
            omega
      refine hmin 7 (Nat.le_refl _) ?_
      have hex : ∀ n, 0 < kCn x v set n → ∃ p, p < n ∧ aIn set p = true ∧ v ≤ x p := by
        intro n
        induction n with
        | zero => intro z; exact absurd z (Nat.lt_irrefl _)
        | succ n ih =>
          intro z
          by_cases q : aIn set n = true ∧ v ≤ x n
          · exact ⟨n, by omega, q⟩
          · have e : kCn x v set (n + 1) = kCn x v set n + 0 := by
              show kCn x v set n + (if aIn set n = true ∧ v ≤ x n then 1 else 0) = _
              rw [if_neg q]
            obtain ⟨p, p1, p2⟩ := ih (by omega)
            exact ⟨p, by omega, p2⟩
      exact hex 7 h0
    obtain ⟨q, q1, q2, q3, q4⟩ := hm
    have he : kCn x (x q) set 7 = kCn x v set 7 := by
      have : ∀ n, n ≤ 7 → kCn x (x q) set n = kCn x v set n := by
        intro n
        induction n with
        | zero => exact fun _ => rfl
        | succ n ih =>
          intro hn
          show kCn x (x q) set n + (if aIn set n = true ∧ x q ≤ x n then 1 else 0) = kCn x v set n + (if aIn set n = true ∧ v ≤ x n then 1 else 0)
          rw [ih (by omega)]
          congr 1
          by_cases z : aIn set n = true ∧ v ≤ x n
          · rw [if_pos z, if_pos ⟨z.1, q4 n (by omega) z.1 z.2⟩]
          · rw [if_neg z, if_neg (fun y => z ⟨y.1, i_trans q3 y.2⟩)]
      exact this 7 (Nat.le_refl _)
    exact i_trans q3 ((kMost_1 (x := x) (set := set) 7 (Nat.le_refl _)).1 q q1 q2 (by rw [he]; exact hv))
  have anti : ∀ u w : Int32, u ≤ w → w ≤ u → u = w := by
    intro u w h1 h2
    rw [Int32.le_iff_toInt_le] at h1 h2
    exact Int32.toInt_inj.mp (by omega)
  by_cases hn : aNewM c = 0
  · rw [if_pos hn, p4]
    have hp : aMaj c (aReach x (x p) 7) = true := maj_reach.mpr ⟨p3, Or.inl hn⟩
    have g1 := c1 p p1 hp
    rcases c2 with c2 | ⟨q, q1, q2, q3⟩
    · rw [c2] at g1
      exact absurd (lt0 p p1) (i_nlt.mpr g1)
    · refine anti _ _ ?_ g1
      rw [q3, ← p4]
      exact up _ ho _ (maj_reach.mp q2).1
  · rw [if_neg hn]
    have hne : ∃ p, p < 7 ∧ aIn (aNewM c) p = true := by
      obtain ⟨n, n1, n2⟩ := and127 (c >>> 7)
      have e : aNewM c = Int32.ofNat n := n2
      rw [e] at hn ⊢
      exact (by decide +kernel : ∀ n, n < 128 → ¬ Int32.ofNat n = 0 → ∃ p, p < 7 ∧ aIn (Int32.ofNat n) p = true) n n1 hn
    obtain ⟨r, r1, r2, r3, r4⟩ := kMost_ex (x := x) hne
    rw [p4, r4]
    have mle : ∀ w, aMaj c (aReach x w 7) = true → w ≤ x p ∧ w ≤ x r := by
      intro w hw
      obtain ⟨h1, h2⟩ := maj_reach.mp hw
      exact ⟨by rw [← p4]; exact up _ ho _ h1, by rw [← r4]; exact up _ hne _ (h2.resolve_left hn)⟩
    have go : ∀ y, y < 7 → aMaj c (aReach x (x y) 7) = true → (x y ≤ x p ∧ x y ≤ x r) → (x p ≤ x y ∨ x r ≤ x y) → aCommon c x 7 = x y := by
      intro y hy h1 h2 h3
      have g1 := c1 y hy h1
      rcases c2 with c2 | ⟨q, q1, q2, q3⟩
      · rw [c2] at g1
        exact absurd (lt0 y hy) (i_nlt.mpr g1)
      · obtain ⟨z1, z2⟩ := mle _ q2
        refine anti _ _ ?_ g1
        rw [q3]
        rcases h3 with h3 | h3
        · exact i_trans z1 h3
        · exact i_trans z2 h3
    unfold cmin
    by_cases q : x r < x p
    · rw [if_pos q]
      have q' : x r ≤ x p := by
        rw [Int32.lt_iff_toInt_lt] at q
        rw [Int32.le_iff_toInt_le]
        omega
      exact go r r1 (maj_reach.mpr ⟨Nat.lt_of_lt_of_le p3 (Nat.mul_le_mul_left 2 (kCn_mono q' 7)), Or.inr r3⟩) ⟨q', by rw [Int32.le_iff_toInt_le]; omega⟩ (Or.inr (by rw [Int32.le_iff_toInt_le]; omega))
    · rw [if_neg q]
      have q' := i_nlt.mp q
      exact go p p1 (maj_reach.mpr ⟨p3, Or.inr (Nat.lt_of_lt_of_le r3 (Nat.mul_le_mul_left 2 (kCn_mono q' 7)))⟩) ⟨by rw [Int32.le_iff_toInt_le]; omega, q'⟩ (Or.inl (by rw [Int32.le_iff_toInt_le]; omega))
