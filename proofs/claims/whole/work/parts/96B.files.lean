/-! the reference's files: copied -/
def setW (σ : RS) (f : Nat) (w : Nat → Int64) : RS := (σ.1, fun f' i => if f' = f then w i else σ.2 f' i)
theorem setW_e {σ : RS} {f : Nat} {w : Nat → Int64} : (setW σ f w).2 f = w := by
  funext i
  exact if_pos rfl
theorem setW_L {σ : RS} {f i : Nat} {w : Nat → Int64} {v : Int64} : setL (setW σ f w) f i v = setW σ f (fun j => if j = i then v else w j) := by
  unfold setL setW
  refine Prod.ext rfl ?_
  funext f' i'
  show (if _ then _ else _) = _
  by_cases q : f' = f
  · by_cases q2 : i' = i
    · simp [q, q2]
    · simp [q, q2]
  · simp [q]
theorem setW_same {σ : RS} {f : Nat} : setW σ f (σ.2 f) = σ := by
  unfold setW
  refine Prod.ext rfl ?_
  funext f' i'
  show (if _ then _ else _) = _
  by_cases q : f' = f
  · rw [if_pos q, q]
  · rw [if_neg q]
/-- n longs from a place lie at another, too -/
def rcpL (w : Nat → Int64) (A B n : Nat) : Nat → Int64 := fun k => if B ≤ k ∧ k < B + n then w (A + (k - B)) else w k
theorem i_8 {k : Nat} : (8 : Int32) * Int32.ofNat k = Int32.ofNat (8 * k) := (Int32.ofNat_mul 8 k).symm
theorem i_1750 {a k : Nat} : (1750 : Int32) * Int32.ofNat a + Int32.ofNat k = Int32.ofNat (1750 * a + k) := by
  rw [Int32.ofNat_add, Int32.ofNat_mul]
  rfl
theorem m_copyFile_l {F : Nat} {σ : RS} {a b S : Nat} (ha : a < 224) (hb : b < 224) (hab : a ≠ b) (hS : S ≤ 14000) (hz : σ.1 37 a = Int32.ofNat S) : ∀ n k, k ≤ (S + 7) / 8 → (S + 7) / 8 + 1 ≤ k + n →
    m_copyFile_b74 F n (setW σ 36 (rcpL (σ.2 36) (1750 * a) (1750 * b) k)) (Int32.ofNat a) (Int32.ofNat b) (Int32.ofNat k) = some (setW σ 36 (rcpL (σ.2 36) (1750 * a) (1750 * b) ((S + 7) / 8))) := by
  have l36 : rlen 36 = 392000 := by decide +kernel
  have l37 : rlen 37 = 224 := by decide +kernel
  intro n
  induction n with
  | zero => intro k h1 h2; omega
  | succ n ih =>
    intro k h1 h2
    unfold m_copyFile_b74
    show (rld _ 37 _).bind _ = _
    rw [rld_n rfl (show a < rlen 37 by rw [l37]; exact ha)]
    simp only [Option.bind_some]
    rw [show (setW σ 36 (rcpL (σ.2 36) (1750 * a) (1750 * b) k)).1 37 a = Int32.ofNat S from hz, i_8, i_ge (by omega) (by omega)]
    by_cases q : S ≤ 8 * k
    · have : k = (S + 7) / 8 := by omega
      rw [if_pos (by simp [q]), this]
    · rw [if_neg (by simp [q]), i_1750, i_1750, rldL_n rfl (show 1750 * a + k < rlen 36 by rw [l36]; omega)]
      simp only [Option.bind_some]
      rw [rstL_n rfl (show 1750 * b + k < rlen 36 by rw [l36]; omega), setW_L, setW_e]
      simp only [Option.bind_some]
      rw [i_s]
      have e : (fun j => if j = 1750 * b + k then rcpL (σ.2 36) (1750 * a) (1750 * b) k (1750 * a + k) else rcpL (σ.2 36) (1750 * a) (1750 * b) k j) = rcpL (σ.2 36) (1750 * a) (1750 * b) (k + 1) := by
        funext j
        unfold rcpL
        by_cases q2 : j = 1750 * b + k
        · subst q2
          rw [if_pos rfl, if_neg (by omega), if_pos (by omega), Nat.add_sub_cancel_left]
        · rw [if_neg q2]
          by_cases q3 : 1750 * b ≤ j ∧ j < 1750 * b + k
          · rw [if_pos q3, if_pos (by omega)]
          · rw [if_neg q3, if_neg (by omega)]
      rw [e]
      exact ih (k + 1) (by omega) (by omega)
def rcpF (σ : RS) (a b : Nat) : RS := setI (setI (setI (setI (setI (setI σ 38 b (σ.1 38 a &&& 1)) 37 b (σ.1 37 a)) 39 b (σ.1 39 a)) 40 b (σ.1 40 a)) 41 b (σ.1 41 a)) 42 b (σ.1 42 a)
theorem m_copyFile_n {F : Nat} {σ : RS} {a b S : Nat} (hF : 1760 ≤ F) (ha : a < 224) (hb : b < 224) (hab : a ≠ b) (hS : S ≤ 14000) (hz : σ.1 37 a = Int32.ofNat S) :
    m_copyFile F σ (Int32.ofNat a) (Int32.ofNat b) = some (setW (rcpF σ a b) 36 (rcpL (σ.2 36) (1750 * a) (1750 * b) ((S + 7) / 8))) := by
  have l : ∀ f, f = 37 ∨ f = 38 ∨ f = 39 ∨ f = 40 ∨ f = 41 ∨ f = 42 → rlen f = 224 := by
    intro f h
    rcases h with rfl | rfl | rfl | rfl | rfl | rfl <;> decide +kernel
  have la : ∀ f, f = 37 ∨ f = 38 ∨ f = 39 ∨ f = 40 ∨ f = 41 ∨ f = 42 → a < rlen f := fun f h => by rw [l f h]; exact ha
  have lb : ∀ f, f = 37 ∨ f = 38 ∨ f = 39 ∨ f = 40 ∨ f = 41 ∨ f = 42 → b < rlen f := fun f h => by rw [l f h]; exact hb
  unfold m_copyFile m_copyFile_b0
  rw [rld_n rfl (la 38 (by simp))]
  simp only [Option.bind_some]
  rw [rst_n rfl (lb 38 (by simp))]
  simp only [Option.bind_some]
  rw [rld_n rfl (la 37 (by simp)), setI_f (by decide)]
  simp only [Option.bind_some]
  rw [rst_n rfl (lb 37 (by simp))]
  simp only [Option.bind_some]
  rw [rld_n rfl (la 39 (by simp)), setI_f (by decide), setI_f (by decide)]
  simp only [Option.bind_some]
  rw [rst_n rfl (lb 39 (by simp))]
  simp only [Option.bind_some]
  rw [rld_n rfl (la 40 (by simp)), setI_f (by decide), setI_f (by decide), setI_f (by decide)]
  simp only [Option.bind_some]
  rw [rst_n rfl (lb 40 (by simp))]
  simp only [Option.bind_some]
  rw [rld_n rfl (la 41 (by simp)), setI_f (by decide), setI_f (by decide), setI_f (by decide), setI_f (by decide)]
  simp only [Option.bind_some]
  rw [rst_n rfl (lb 41 (by simp))]
  simp only [Option.bind_some]
  rw [rld_n rfl (la 42 (by simp)), setI_f (by decide), setI_f (by decide), setI_f (by decide), setI_f (by decide), setI_f (by decide)]
  simp only [Option.bind_some]
  rw [rst_n rfl (lb 42 (by simp))]
  simp only [Option.bind_some]
  have key := m_copyFile_l (F := F) (σ := rcpF σ a b) ha hb hab hS (by
    unfold rcpF
    rw [setI_f (by decide), setI_f (by decide), setI_f (by decide), setI_f (by decide), setI_i hab, setI_f (by decide)]
    exact hz) F 0 (Nat.zero_le _) (by omega)
  have e0 : rcpL ((rcpF σ a b).2 36) (1750 * a) (1750 * b) 0 = (rcpF σ a b).2 36 := by
    funext k
    unfold rcpL
    rw [if_neg (by omega)]
  rw [e0, setW_same] at key
  exact key
/-- a file as it is after its sync -/
def rsyF (σ : RS) (j S : Nat) : RS := if σ.1 44 j = 0 then σ else setW (rcpF σ (2 * j) (2 * j + 1)) 36 (rcpL (σ.2 36) (1750 * (2 * j)) (1750 * (2 * j + 1)) ((S + 7) / 8))
theorem rsyF_37 {σ : RS} {j S : Nat} : (rsyF σ j S).1 37 (2 * j) = σ.1 37 (2 * j) := by
  unfold rsyF
  by_cases q : σ.1 44 j = 0
  · rw [if_pos q]
  · rw [if_neg q]
    show (rcpF σ (2 * j) (2 * j + 1)).1 37 (2 * j) = _
    unfold rcpF
    rw [setI_f (by decide), setI_f (by decide), setI_f (by decide), setI_f (by decide), setI_i (by omega), setI_f (by decide)]
theorem m_syncFile_n {F : Nat} {σ : RS} {s f S : Nat} (hF : 1760 ≤ F) (hs : s < 7) (hf : f < 16) (hS : S ≤ 14000) (hz : σ.1 37 (2 * (16 * s + f)) = Int32.ofNat S) :
    m_syncFile F σ (Int32.ofNat s) (Int32.ofNat f) = some (setI (setI (rsyF σ (16 * s + f) S) 44 (16 * s + f) 0) 43 (16 * s + f) (σ.1 37 (2 * (16 * s + f)))) := by
  have l37 : 2 * (16 * s + f) < rlen 37 := (by decide +kernel : rlen 37 = 224) ▸ (by omega)
  have l43 : 16 * s + f < rlen 43 := (by decide +kernel : rlen 43 = 112) ▸ (by omega)
  have l44 : 16 * s + f < rlen 44 := (by decide +kernel : rlen 44 = 112) ▸ (by omega)
  have b25 : ∀ τ : RS, m_syncFile_b25 F τ (Int32.ofNat (2 * (16 * s + f))) = some (setI (setI τ 44 (16 * s + f) 0) 43 (16 * s + f) (τ.1 37 (2 * (16 * s + f)))) := by
    intro τ
    unfold m_syncFile_b25
    rw [if_neg (by decide), i_half (by omega), rst_n rfl l44]
    simp only [Option.bind_some]
    rw [if_neg (by decide), rld_n rfl l37]
    simp only [Option.bind_some]
    rw [rst_n rfl l43, setI_f (by decide)]
    rfl
  unfold m_syncFile m_syncFile_b0
  rw [m_fileOf_n]
  simp only [Option.bind_some]
  rw [if_neg (by decide), i_half (by omega), rld_n rfl l44]
  simp only [Option.bind_some]
  by_cases q : σ.1 44 (16 * s + f) = 0
  · rw [if_pos (by simp [xc0, q]), b25]
    unfold rsyF
    rw [if_pos q]
  · rw [if_neg (by simp [xc0, q]), i_s, m_copyFile_n hF (by omega) (by omega) (by omega) hS hz]
    simp only [Option.bind_some]
    rw [b25]
    have e := @rsyF_37 σ (16 * s + f) S
    unfold rsyF at e ⊢
    rw [if_neg q] at e ⊢
    rw [e]
