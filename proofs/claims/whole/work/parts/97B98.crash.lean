/-! a server crashes -/
theorem u64_0 {x : UInt64} : x.toInt64 = 0 ↔ x = 0 := by
  constructor
  · intro h
    exact congrArg Int64.toUInt64 h
  · intro h
    rw [h]
    rfl
theorem lgc_0 {x : UInt64} : xc0 .ne (lg_cmp x.toInt64 0) = true ↔ ¬ x = 0 := by
  rw [c0_ne]
  unfold lg_cmp
  by_cases q : x = 0
  · rw [if_neg (by rw [q]; decide), if_pos (u64_0.mpr q)]
    exact ⟨fun y => absurd rfl y, fun y => absurd q y⟩
  · refine ⟨fun _ => q, fun _ => ?_⟩
    by_cases g : x.toInt64 > 0
    · rw [if_pos g]
      decide
    · rw [if_neg g, if_neg (fun z => q (u64_0.mp z))]
      decide
/-- what is kept of a file that was not synced: between none and twice what was not -/
def crK (r : Int64) (d : Int32) : Int32 :=
  let span := (2 * d + 1).toInt64
  let q := (r.toUInt64 >>> 33).toInt64 &&& 1048575
  (q - q / span * span).toInt32
theorem crK_b {r : Int64} {d : Nat} (hd : d ≤ 14000) : ∃ k : Nat, crK r (Int32.ofNat d) = Int32.ofNat k ∧ k ≤ 2 * d := by
  have eq : ∃ q : Nat, ((r.toUInt64 >>> 33).toInt64 &&& 1048575) = Int64.ofNat q ∧ q < 1048576 := by
    refine ⟨((r.toUInt64 >>> 33).toInt64 &&& 1048575).toInt.toNat, ?_, ?_⟩ <;>
    · have h1 : ((r.toUInt64 >>> 33).toInt64 &&& 1048575).toBitVec = (r.toUInt64 >>> 33).toInt64.toBitVec &&& 1048575#64 := Int64.toBitVec_and _ _
      have h2 : ((r.toUInt64 >>> 33).toInt64 &&& 1048575).toBitVec.toNat < 1048576 := by
        rw [h1, BitVec.toNat_and]
        exact Nat.lt_of_le_of_lt Nat.and_le_right (by decide)
      have h3 : ((r.toUInt64 >>> 33).toInt64 &&& 1048575).toInt = ((r.toUInt64 >>> 33).toInt64 &&& 1048575).toBitVec.toNat := by
        show ((r.toUInt64 >>> 33).toInt64 &&& 1048575).toBitVec.toInt = _
        rw [BitVec.toInt_eq_toNat_of_lt (by omega)]
      first
      | (apply Int64.toInt_inj.mp
         rw [Int64.toInt_ofNat_of_lt (by omega), h3]
         omega)
      | omega
  obtain ⟨q, e, hq⟩ := eq
  unfold crK
  dsimp only
  have es : (2 * Int32.ofNat d + 1).toInt64 = Int64.ofNat (2 * d + 1) := by
    rw [show (2 : Int32) * Int32.ofNat d = Int32.ofNat (2 * d) from i_mc (c := 2), i_s]
    apply Int64.toInt_inj.mp
    rw [Int32.toInt_toInt64, Int32.toInt_ofNat_of_lt (by omega), Int64.toInt_ofNat_of_lt (by omega)]
  rw [e, es]
  refine ⟨q % (2 * d + 1), ?_, ?_⟩
  · apply Int32.toInt_inj.mp
    have hm : q % (2 * d + 1) < 2 * d + 1 := Nat.mod_lt _ (by omega)
    have e1 : (Int64.ofNat q / Int64.ofNat (2 * d + 1)) = Int64.ofNat (q / (2 * d + 1)) := by
      apply Int64.toInt_inj.mp
      have hle : q / (2 * d + 1) ≤ q := Nat.div_le_self _ _
      rw [Int64.toInt_div_of_ne_right _ _ (by
        intro z
        have := congrArg Int64.toInt z
        rw [Int64.toInt_ofNat_of_lt (by omega), show (-1 : Int64).toInt = -1 by decide] at this
        omega), Int64.toInt_ofNat_of_lt (by omega), Int64.toInt_ofNat_of_lt (by omega), Int64.toInt_ofNat_of_lt (by omega)]
      rfl
    have e2 : Int64.ofNat q - Int64.ofNat q / Int64.ofNat (2 * d + 1) * Int64.ofNat (2 * d + 1) = Int64.ofNat (q % (2 * d + 1)) := by
      rw [e1, ← Int64.ofNat_mul]
      have h1 := Nat.div_add_mod q (2 * d + 1)
      have h2 : q = q % (2 * d + 1) + q / (2 * d + 1) * (2 * d + 1) := by
        rw [Nat.mul_comm (q / (2 * d + 1))]
        omega
      have h3 : Int64.ofNat q = Int64.ofNat (q % (2 * d + 1)) + Int64.ofNat (q / (2 * d + 1) * (2 * d + 1)) := by
        rw [← Int64.ofNat_add, ← h2]
      rw [h3]
      exact Int64.add_sub_cancel _ _
    rw [e2, Int32.toInt_ofNat_of_lt (by omega), Int64.toInt_toInt32, Int64.toInt_ofNat_of_lt (by omega)]
    have : ((q % (2 * d + 1) : Nat) : Int).bmod (2 ^ 32) = ((q % (2 * d + 1) : Nat) : Int) := by
      rw [Int.bmod_eq_of_le (by omega) (by omega)]
    exact this
  · have hm : q % (2 * d + 1) < 2 * d + 1 := Nat.mod_lt _ (by omega)
    omega
