/-! bytes that lie by eight in a long -/
theorem i_shr {k : Nat} (h : k < 2147483648) : Int32.ofNat k >>> ((3 : Int32) &&& 31) = Int32.ofNat (k / 8) := by
  apply Int32.toInt_inj.mp
  rw [Int32.toInt_ofNat_of_lt (show k / 8 < 2 ^ 31 by omega)]
  show (Int32.ofNat k >>> ((3 : Int32) &&& 31)).toBitVec.toInt = _
  rw [Int32.toBitVec_shiftRight]
  have e : ((3 : Int32) &&& 31).toBitVec.smod 32 = 3#32 := by decide
  rw [e]
  show ((Int32.ofNat k).toBitVec.sshiftRight 3).toInt = _
  rw [BitVec.toInt_sshiftRight]
  show (Int32.ofNat k).toInt >>> 3 = _
  rw [Int32.toInt_ofNat_of_lt h, Int.shiftRight_eq_div_pow]
  omega
theorem i_and {k : Nat} (m : Nat) (hm : m ≤ 31) : Int32.ofNat k &&& Int32.ofNat (2 ^ m - 1) = Int32.ofNat (k % 2 ^ m) := by
  apply Int32.toBitVec_inj.mp
  rw [Int32.toBitVec_and]
  apply BitVec.eq_of_toNat_eq
  have e2 : 2 ^ m ≤ 2 ^ 31 := Nat.pow_le_pow_right (by decide) hm
  show ((BitVec.ofNat 32 k) &&& (BitVec.ofNat 32 (2 ^ m - 1))).toNat = (BitVec.ofNat 32 (k % 2 ^ m)).toNat
  have e3 : 0 < 2 ^ m := Nat.two_pow_pos m
  have e4 : k % 2 ^ m < 2 ^ m := Nat.mod_lt _ e3
  rw [BitVec.toNat_and, BitVec.toNat_ofNat, BitVec.toNat_ofNat, BitVec.toNat_ofNat, Nat.mod_eq_of_lt (show 2 ^ m - 1 < 2 ^ 32 by omega), Nat.and_two_pow_sub_one_eq_mod, Nat.mod_eq_of_lt (show k % 2 ^ m < 2 ^ 32 by omega)]
  exact Nat.mod_mod_of_dvd k (Nat.pow_dvd_pow 2 (by omega))
theorem i_sh8 {j : Nat} (h : j < 8) : ((8 : Int32) * Int32.ofNat j).toInt64 &&& 63 = Int64.ofNat (8 * j) := by
  have : j = 0 ∨ j = 1 ∨ j = 2 ∨ j = 3 ∨ j = 4 ∨ j = 5 ∨ j = 6 ∨ j = 7 := by omega
  rcases this with rfl | rfl | rfl | rfl | rfl | rfl | rfl | rfl <;> decide
/-- a byte of eight -/
def rbb (x : Int64) (j : Nat) : Int32 := (x >>> Int64.ofNat (8 * j)).toInt32.toInt8.toInt32
theorem i_smod {j : Nat} (h : j < 8) : (Int64.ofNat (8 * j)).toBitVec.smod 64 = BitVec.ofNat 64 (8 * j) := by
  have : j = 0 ∨ j = 1 ∨ j = 2 ∨ j = 3 ∨ j = 4 ∨ j = 5 ∨ j = 6 ∨ j = 7 := by omega
  rcases this with rfl | rfl | rfl | rfl | rfl | rfl | rfl | rfl <;> decide
theorem rbb_bit {x : Int64} {j i : Nat} (hj : j < 8) (hi : i < 8) : ((x >>> Int64.ofNat (8 * j)).toInt32.toInt8).toBitVec.getLsbD i = x.toBitVec.getLsbD (8 * j + i) := by
  rw [Int32.toBitVec_toInt8, Int64.toBitVec_toInt32, Int64.toBitVec_shiftRight, i_smod hj]
  show (BitVec.signExtend 8 (BitVec.signExtend 32 (x.toBitVec.sshiftRight (BitVec.ofNat 64 (8 * j)).toNat))).getLsbD i = _
  rw [BitVec.toNat_ofNat, Nat.mod_eq_of_lt (by omega), BitVec.getLsbD_signExtend, BitVec.getLsbD_signExtend, BitVec.getLsbD_sshiftRight]
  simp only [hi, decide_true, Bool.true_and]
  rw [if_pos (by omega), if_pos (by omega), if_pos (by omega), decide_eq_true (show i < 32 by omega), decide_eq_false (show ¬ 64 ≤ i by omega)]
  simp
theorem rbb_lay {x : Int64} {v : Int32} {j j' : Nat} (hj : j < 8) (hj' : j' < 8) : rbb ((x &&& (((255 : Int64) <<< Int64.ofNat (8 * j)) ^^^ (-1 : Int64))) ||| ((v.toInt64 &&& (255 : Int64)) <<< Int64.ofNat (8 * j))) j' = if j' = j then v.toInt8.toInt32 else rbb x j' := by
  have key : ∀ y : Int64, ∀ w : Int8, (∀ i, i < 8 → y.toBitVec.getLsbD (8 * j' + i) = w.toBitVec.getLsbD i) → rbb y j' = w.toInt32 := by
    intro y w h
    unfold rbb
    have : (y >>> Int64.ofNat (8 * j')).toInt32.toInt8 = w := by
      apply Int8.toBitVec_inj.mp
      apply BitVec.eq_of_getLsbD_eq
      intro i hi
      rw [rbb_bit hj' hi, h i hi]
    rw [this]
  have e255 : ∀ n, (255 : Int64).toBitVec.getLsbD n = decide (n < 8) := by
    intro n
    show (255#64).getLsbD n = _
    by_cases q : n < 64
    · exact (by decide : ∀ n, n < 64 → (255#64).getLsbD n = decide (n < 8)) n q
    · rw [BitVec.getLsbD_of_ge _ _ (by omega)]
      simp
      omega
  have em1 : ∀ n, n < 64 → (-1 : Int64).toBitVec.getLsbD n = true := by decide
  have bits : ∀ i, i < 8 → ((x &&& (((255 : Int64) <<< Int64.ofNat (8 * j)) ^^^ (-1 : Int64))) ||| ((v.toInt64 &&& (255 : Int64)) <<< Int64.ofNat (8 * j))).toBitVec.getLsbD (8 * j' + i) = if j' = j then v.toInt8.toBitVec.getLsbD i else x.toBitVec.getLsbD (8 * j' + i) := by
    intro i hi
    rw [Int64.toBitVec_or, Int64.toBitVec_and, Int64.toBitVec_xor, Int64.toBitVec_shiftLeft, Int64.toBitVec_shiftLeft, Int64.toBitVec_and, i_smod hj]
    show _ = _
    rw [BitVec.getLsbD_or, BitVec.getLsbD_and, BitVec.getLsbD_xor, em1 _ (by omega), BitVec.shiftLeft_eq', BitVec.shiftLeft_eq', BitVec.toNat_ofNat, Nat.mod_eq_of_lt (by omega), BitVec.getLsbD_shiftLeft, BitVec.getLsbD_shiftLeft, BitVec.getLsbD_and, e255]
    rw [Int32.toBitVec_toInt64, Int32.toBitVec_toInt8, BitVec.getLsbD_signExtend, BitVec.getLsbD_signExtend]
    by_cases q : j' = j
    · subst q
      rw [if_pos rfl]
      have e : 8 * j' + i - 8 * j' = i := by omega
      rw [e]
      have e1 : 8 * j' + i < 64 := by omega
      have e2 : ¬ 8 * j' + i < 8 * j' := by omega
      have e3 : i < 32 := by omega
      have e4 : i < 64 := by omega
      simp [hi, e1, e2, e3, e4]
    · rw [if_neg q]
      by_cases q2 : 8 * j' + i < 8 * j
      · simp [q2]
      · have : ¬ (8 * j' + i - 8 * j < 8) := by omega
        simp [this]
  by_cases q : j' = j
  · rw [if_pos q]
    refine key _ _ fun i hi => ?_
    rw [bits i hi, if_pos q]
  · rw [if_neg q]
    refine key _ _ fun i hi => ?_
    rw [bits i hi, if_neg q, ← rbb_bit hj' hi]
def rB (w : Nat → Int64) (k : Nat) : Int32 := rbb (w (k / 8)) (k % 8)
def rlay (x : Int64) (j : Nat) (v : Int32) : Int64 := (x &&& (((255 : Int64) <<< Int64.ofNat (8 * j)) ^^^ (-1 : Int64))) ||| ((v.toInt64 &&& (255 : Int64)) <<< Int64.ofNat (8 * j))
theorem rB_lay {w : Nat → Int64} {k k' : Nat} {v : Int32} : rB (fun i => if i = k / 8 then rlay (w (k / 8)) (k % 8) v else w i) k' = if k' = k then v.toInt8.toInt32 else rB w k' := by
  unfold rB
  by_cases q : k' / 8 = k / 8
  · simp only [q, if_true]
    unfold rlay
    rw [rbb_lay (Nat.mod_lt _ (by decide)) (Nat.mod_lt _ (by decide))]
    by_cases q2 : k' = k
    · rw [if_pos q2, if_pos (by rw [q2])]
    · rw [if_neg q2, if_neg (by omega)]
  · simp only [q, if_false]
    rw [if_neg (fun z => q (by rw [z]))]
theorem setL_w {σ : RS} {f i : Nat} {v : Int64} : (setL σ f i v).2 f = fun j => if j = i then v else σ.2 f j := by
  funext j
  by_cases q : j = i
  · subst q; rw [setL_e, if_pos rfl]
  · rw [setL_i q, if_neg q]
theorem i_and7 {k : Nat} : Int32.ofNat k &&& (7 : Int32) = Int32.ofNat (k % 8) := i_and 3 (by decide)
theorem i_b8 {x : Int8} : x.toInt32.toInt8.toInt32 = x.toInt32 := by rw [Int8.toInt8_toInt32]
theorem m_inLetter_n {σ : RS} {k : Nat} (h : k < 543744) : m_inLetter σ (Int32.ofNat k) = some (rB (σ.2 16) k, σ) := by
  unfold m_inLetter
  rw [i_shr (by omega), rldL_n rfl (show k / 8 < rlen 16 from (by decide +kernel : rlen 16 = 67968) ▸ (by omega))]
  simp only [Option.bind_some, i_and7, i_sh8 (Nat.mod_lt k (by decide : 0 < 8)), i_b8, if_true]
  rfl
theorem m_layLetter_n {σ : RS} {k : Nat} {v : Int32} (h : k < 543744) : m_layLetter σ (Int32.ofNat k) v = some (setL σ 16 (k / 8) (rlay (σ.2 16 (k / 8)) (k % 8) v)) := by
  have hk : k / 8 < rlen 16 := (by decide +kernel : rlen 16 = 67968) ▸ (by omega)
  unfold m_layLetter
  rw [i_shr (by omega), rldL_n rfl hk]
  simp only [Option.bind_some, i_and7, i_sh8 (Nat.mod_lt k (by decide : 0 < 8))]
  rw [rstL_n rfl hk]
  rfl
theorem m_inLog_n {σ : RS} {k : Nat} (h : k < 917504) : m_inLog σ (Int32.ofNat k) = some (rB (σ.2 63) k, σ) := by
  unfold m_inLog
  rw [i_shr (by omega), rldL_n rfl (show k / 8 < rlen 63 from (by decide +kernel : rlen 63 = 114688) ▸ (by omega))]
  simp only [Option.bind_some, i_and7, i_sh8 (Nat.mod_lt k (by decide : 0 < 8)), i_b8, if_true]
  rfl
theorem m_layLog_n {σ : RS} {k : Nat} {v : Int32} (h : k < 917504) : m_layLog σ (Int32.ofNat k) v = some (setL σ 63 (k / 8) (rlay (σ.2 63 (k / 8)) (k % 8) v)) := by
  have hk : k / 8 < rlen 63 := (by decide +kernel : rlen 63 = 114688) ▸ (by omega)
  unfold m_layLog
  rw [i_shr (by omega), rldL_n rfl hk]
  simp only [Option.bind_some, i_and7, i_sh8 (Nat.mod_lt k (by decide : 0 < 8))]
  rw [rstL_n rfl hk]
  rfl
theorem m_onDisk_n {σ : RS} {k : Nat} (h : k < 3136000) : m_onDisk σ (Int32.ofNat k) = some (rB (σ.2 36) k, σ) := by
  unfold m_onDisk
  rw [i_shr (by omega), rldL_n rfl (show k / 8 < rlen 36 from (by decide +kernel : rlen 36 = 392000) ▸ (by omega))]
  simp only [Option.bind_some, i_and7, i_sh8 (Nat.mod_lt k (by decide : 0 < 8)), i_b8, if_true]
  rfl
theorem m_layDisk_n {σ : RS} {k : Nat} {v : Int32} (h : k < 3136000) : m_layDisk σ (Int32.ofNat k) v = some (setL σ 36 (k / 8) (rlay (σ.2 36 (k / 8)) (k % 8) v)) := by
  have hk : k / 8 < rlen 36 := (by decide +kernel : rlen 36 = 392000) ▸ (by omega)
  unfold m_layDisk
  rw [i_shr (by omega), rldL_n rfl hk]
  simp only [Option.bind_some, i_and7, i_sh8 (Nat.mod_lt k (by decide : 0 < 8))]
  rw [rstL_n rfl hk]
  rfl
