/-! effects of small methods of the reference -/
theorem m_areParted_n {σ : RS} {f t : Int32} : m_areParted σ f t = some (aB (!decide (((σ.1 24 0 >>> (f &&& 31)) &&& 1) = ((σ.1 24 0 >>> (t &&& 31)) &&& 1))), σ) := by
  unfold m_areParted m_areParted_b0
  by_cases q : ((σ.1 24 0 >>> (f &&& 31)) &&& 1) = ((σ.1 24 0 >>> (t &&& 31)) &&& 1)
  · rw [if_pos (by simp [xc2, q])]
    simp [q, aB, m_areParted_b24]
  · rw [if_neg (by simp [xc2, q])]
    simp [q, aB, m_areParted_b24]
theorem m_draw_n {σ : RS} {m : Int32} (h : ¬ m.toInt64 = 0) : m_draw σ m = some (aRnd (aLcg (σ.2 28 0)) m.toInt64, setL σ 28 0 (aLcg (σ.2 28 0))) := by
  unfold m_draw
  simp only [Option.bind_some]
  rw [if_neg h, setL_e]
  rfl
theorem i_16 {s f : Nat} : (16 : Int32) * Int32.ofNat s + Int32.ofNat f = Int32.ofNat (16 * s + f) := by
  rw [Int32.ofNat_add, Int32.ofNat_mul]
  rfl
theorem m_fileOf_n {s f : Nat} : m_fileOf (Int32.ofNat s) (Int32.ofNat f) = some (Int32.ofNat (2 * (16 * s + f))) := by
  unfold m_fileOf
  rw [i_16, i_2]
/-- the place of an entry's number among 512 -/
def rMod (n : Int32) : Nat := n.toBitVec.toNat % 512
theorem rMod_lt {n : Int32} : rMod n < 512 := Nat.mod_lt _ (by decide)
theorem i_511 {n : Int32} : n &&& 511 = Int32.ofNat (rMod n) := by
  apply Int32.toBitVec_inj.mp
  rw [Int32.toBitVec_and]
  apply BitVec.eq_of_toNat_eq
  show (n.toBitVec &&& 511#32).toNat = (BitVec.ofNat 32 (rMod n)).toNat
  have := @rMod_lt n
  rw [BitVec.toNat_and, BitVec.toNat_ofNat, BitVec.toNat_ofNat, Nat.mod_eq_of_lt (show rMod n < 2 ^ 32 by omega), Nat.mod_eq_of_lt (show 511 < 2 ^ 32 by decide)]
  exact Nat.and_two_pow_sub_one_eq_mod _ 9
theorem m_logOf_n {s : Nat} {n : Int32} : m_logOf (Int32.ofNat s) n = some (Int32.ofNat (512 * s + rMod n)) := by
  unfold m_logOf
  rw [i_511, Int32.ofNat_add, Int32.ofNat_mul]
  rfl
theorem m_termAt_n {σ : RS} {s : Nat} {n : Int32} (h : s < 7) : m_termAt σ (Int32.ofNat s) n = some (if n = σ.1 55 s then σ.1 57 s else σ.1 59 (512 * s + rMod n), σ) := by
  have hr := @rMod_lt n
  unfold m_termAt m_termAt_b0
  rw [rld_n rfl (show s < rlen 55 from h)]
  simp only [Option.bind_some]
  by_cases q : n = σ.1 55 s
  · rw [if_neg (by simp [xc2, q]), if_pos q, rld_n rfl (show s < rlen 57 from h)]
    rfl
  · rw [if_pos (by simp [xc2, q]), if_neg q, m_logOf_n]
    simp only [Option.bind_some]
    rw [rld_n rfl (show 512 * s + rMod n < rlen 59 from (by decide +kernel : rlen 59 = 3584) ▸ (by omega))]
    rfl
theorem m_nextContent_n {σ : RS} {s : Nat} (h : s < 7) : m_nextContent σ (Int32.ofNat s) = some (Int32.ofNat (256 * (512 * s + rMod (σ.1 56 s + 1))), σ) := by
  unfold m_nextContent
  rw [rld_n rfl (show s < rlen 56 from h)]
  simp only [Option.bind_some]
  rw [m_logOf_n]
  simp only [Option.bind_some]
  rw [Int32.ofNat_mul 256]
  rfl
theorem i_half {k : Nat} (h : 2 * k < 2147483648) : Int32.ofNat (2 * k) / 2 = Int32.ofNat k := by
  apply Int32.toInt_inj.mp
  rw [Int32.toInt_div, Int32.toInt_ofNat_of_lt h, Int32.toInt_ofNat_of_lt (by omega)]
  show (Int.tdiv (((2 * k : Nat)) : Int) 2).bmod _ = _
  have : Int.tdiv (((2 * k : Nat)) : Int) 2 = (k : Int) := by
    rw [Int.natCast_mul]
    exact Int.mul_tdiv_cancel_left _ (by decide)
  rw [this]
  exact Int.bmod_eq_of_le (by omega) (by omega)
theorem m_removeFile_n {σ : RS} {s f : Nat} (hs : s < 7) (hf : f < 16) : m_removeFile σ (Int32.ofNat s) (Int32.ofNat f) = some (setI (setI (setI (setI σ 44 (16 * s + f) 1) 38 (2 * (16 * s + f)) 0) 37 (2 * (16 * s + f)) 0) 43 (16 * s + f) 0) := by
  unfold m_removeFile
  rw [m_fileOf_n]
  simp only [Option.bind_some]
  rw [if_neg (by decide), i_half (by omega)]
  rw [rst_n rfl (show 16 * s + f < rlen 44 from (by decide +kernel : rlen 44 = 112) ▸ (by omega))]
  simp only [Option.bind_some]
  rw [rst_n rfl (show 2 * (16 * s + f) < rlen 38 from (by decide +kernel : rlen 38 = 224) ▸ (by omega))]
  simp only [Option.bind_some]
  rw [rst_n rfl (show 2 * (16 * s + f) < rlen 37 from (by decide +kernel : rlen 37 = 224) ▸ (by omega))]
  simp only [Option.bind_some]
  rw [if_neg (by decide)]
  rw [rst_n rfl (show 16 * s + f < rlen 43 from (by decide +kernel : rlen 43 = 112) ▸ (by omega))]
  rfl
theorem setI_same {σ : RS} {f i : Nat} {v : Int32} (h : σ.1 f i = v) : setI σ f i v = σ := by
  unfold setI
  refine Prod.ext ?_ rfl
  funext f' i'
  by_cases q : f' = f ∧ i' = i
  · show (if _ then _ else _) = _
    rw [if_pos q, q.1, q.2, h]
  · show (if _ then _ else _) = _
    rw [if_neg q]
theorem m_cut_n {σ : RS} {s f : Nat} {n : Int32} (hs : s < 7) (hf : f < 16) : m_cut σ (Int32.ofNat s) (Int32.ofNat f) n = some (setI (setI (setI σ 44 (16 * s + f) 1) 37 (2 * (16 * s + f)) (aMin (σ.1 37 (2 * (16 * s + f))) n)) 43 (16 * s + f) (aMin (σ.1 43 (16 * s + f)) (aMin (σ.1 37 (2 * (16 * s + f))) n))) := by
  have l37 : 2 * (16 * s + f) < rlen 37 := (by decide +kernel : rlen 37 = 224) ▸ (by omega)
  have l43 : 16 * s + f < rlen 43 := (by decide +kernel : rlen 43 = 112) ▸ (by omega)
  have l44 : 16 * s + f < rlen 44 := (by decide +kernel : rlen 44 = 112) ▸ (by omega)
  have b36 : ∀ τ : RS, m_cut_b36 τ (Int32.ofNat (2 * (16 * s + f))) = some (setI τ 43 (16 * s + f) (aMin (τ.1 43 (16 * s + f)) (τ.1 37 (2 * (16 * s + f))))) := by
    intro τ
    unfold m_cut_b36
    rw [if_neg (by decide), i_half (by omega), rld_n rfl l43]
    simp only [Option.bind_some]
    rw [rld_n rfl l37]
    simp only [Option.bind_some]
    unfold aMin
    by_cases q : τ.1 43 (16 * s + f) ≤ τ.1 37 (2 * (16 * s + f))
    · rw [if_pos (by simp [xc2, q]), if_pos q, setI_same rfl]
      rfl
    · rw [if_neg (by simp [xc2, q]), if_neg q, if_neg (by decide), rst_n rfl l43]
      rfl
  unfold m_cut m_cut_b0
  rw [m_fileOf_n]
  simp only [Option.bind_some]
  rw [if_neg (by decide), i_half (by omega), rst_n rfl l44]
  simp only [Option.bind_some]
  rw [rld_n rfl l37]
  simp only [Option.bind_some]
  rw [setI_f (by decide)]
  by_cases q : σ.1 37 (2 * (16 * s + f)) ≤ n
  · rw [if_pos (by simp [xc2, q]), b36, setI_f (by decide), setI_f (by decide)]
    have e : aMin (σ.1 37 (2 * (16 * s + f))) n = σ.1 37 (2 * (16 * s + f)) := if_pos q
    rw [e, setI_same (σ := setI σ 44 (16 * s + f) _) (f := 37) (setI_f (by decide))]
    rfl
  · rw [if_neg (by simp [xc2, q]), rst_n rfl l37]
    simp only [Option.bind_some]
    rw [b36, setI_e, setI_f (by decide), setI_f (by decide)]
    have e : aMin (σ.1 37 (2 * (16 * s + f))) n = n := if_neg q
    rw [e]
    rfl
