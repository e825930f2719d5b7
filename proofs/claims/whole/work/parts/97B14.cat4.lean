/-! four bytes of a number, and the number of four bytes -/
theorem lo_bit {y : Int32} {i : Nat} (h : i < 8) : (aLow8 y).toBitVec.getLsbD i = y.toBitVec.getLsbD i := by
  unfold aLow8
  rw [Int8.toBitVec_toInt32, Int32.toBitVec_toInt8]
  show (BitVec.signExtend 32 (BitVec.signExtend 8 y.toBitVec)).getLsbD i = _
  rw [BitVec.getLsbD_signExtend, BitVec.getLsbD_signExtend]
  simp only [h, decide_true, Bool.true_and, if_true]
  rw [decide_eq_true (show i < 32 by omega), if_pos (by omega)]
  simp
theorem sh_bit {v : Int32} {k i : Nat} (hk : k < 32) (hi : k + i < 32) : (v >>> Int32.ofNat k).toBitVec.getLsbD i = v.toBitVec.getLsbD (k + i) := by
  rw [Int32.toBitVec_shiftRight]
  rw [show ((Int32.ofNat k).toBitVec.smod 32) = BitVec.ofNat 32 k by revert hk; clear hi; revert k; decide]
  show (v.toBitVec.sshiftRight (BitVec.ofNat 32 k).toNat).getLsbD i = _
  rw [BitVec.toNat_ofNat, Nat.mod_eq_of_lt (by omega), BitVec.getLsbD_sshiftRight, decide_eq_false (show ¬ 32 ≤ i by omega), if_pos hi]
  simp
theorem shl_bit {v : Int32} {k i : Nat} (hk : k < 32) (hi : i < 32) : (v <<< Int32.ofNat k).toBitVec.getLsbD i = (!decide (i < k) && v.toBitVec.getLsbD (i - k)) := by
  rw [Int32.toBitVec_shiftLeft]
  rw [show ((Int32.ofNat k).toBitVec.smod 32) = BitVec.ofNat 32 k by revert hk; revert k; decide]
  show (v.toBitVec <<< (BitVec.ofNat 32 k).toNat).getLsbD i = _
  rw [BitVec.toNat_ofNat, Nat.mod_eq_of_lt (by omega), BitVec.getLsbD_shiftLeft, decide_eq_true hi]
  simp
theorem m255_bit {y : Int32} {i : Nat} : (y &&& 255).toBitVec.getLsbD i = (y.toBitVec.getLsbD i && decide (i < 8)) := by
  rw [Int32.toBitVec_and, BitVec.getLsbD_and]
  congr 1
  show (255#32).getLsbD i = _
  by_cases q : i < 32
  · revert q
    revert i
    decide
  · rw [BitVec.getLsbD_of_ge _ _ (by omega), decide_eq_false (by omega)]
theorem i_cat {v : Int32} : (((aLow8 (v >>> 24) <<< 24) ||| ((aLow8 (v >>> 16) &&& 255) <<< 16)) ||| ((aLow8 (v >>> 8) &&& 255) <<< 8)) ||| (aLow8 v &&& 255) = v := by
  apply Int32.toBitVec_inj.mp
  apply BitVec.eq_of_getLsbD_eq
  intro i hi
  rw [Int32.toBitVec_or, Int32.toBitVec_or, Int32.toBitVec_or, BitVec.getLsbD_or, BitVec.getLsbD_or, BitVec.getLsbD_or]
  rw [show (24 : Int32) = Int32.ofNat 24 from rfl, show (16 : Int32) = Int32.ofNat 16 from rfl, show (8 : Int32) = Int32.ofNat 8 from rfl]
  rw [shl_bit (by omega) hi, shl_bit (by omega) hi, shl_bit (by omega) hi, m255_bit, m255_bit, m255_bit]
  by_cases q1 : i < 8
  · rw [decide_eq_true (show i < 24 by omega), decide_eq_true (show i < 16 by omega), decide_eq_true q1, lo_bit q1]
    simp
  · by_cases q2 : i < 16
    · rw [decide_eq_true (show i < 24 by omega), decide_eq_true (show i < 16 by omega), decide_eq_false q1, decide_eq_true (show i - 8 < 8 by omega), lo_bit (y := v >>> Int32.ofNat 8) (by omega), sh_bit (k := 8) (by omega) (by omega), show 8 + (i - 8) = i by omega]
      simp
    · by_cases q3 : i < 24
      · rw [decide_eq_true (show i < 24 by omega), decide_eq_false (show ¬ i < 16 by omega), decide_eq_false q1, decide_eq_false (show ¬ i - 8 < 8 by omega), decide_eq_true (show i - 16 < 8 by omega), lo_bit (y := v >>> Int32.ofNat 16) (show i - 16 < 8 by omega), sh_bit (k := 16) (by omega) (by omega), show 16 + (i - 16) = i by omega]
        simp
      · rw [decide_eq_false (show ¬ i < 24 by omega), decide_eq_false (show ¬ i < 16 by omega), decide_eq_false q1, decide_eq_false (show ¬ i - 8 < 8 by omega), decide_eq_false (show ¬ i - 16 < 8 by omega), lo_bit (y := v >>> Int32.ofNat 24) (show i - 24 < 8 by omega), sh_bit (k := 24) (by omega) (by omega), show 24 + (i - 24) = i by omega]
        simp
