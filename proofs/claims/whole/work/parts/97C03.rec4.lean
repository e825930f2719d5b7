/-! segments one behind another -/
def fsN (a : AA) (s g : Nat) : Nat := ((aFc a s g).1 2).toNatClampNeg
/-- how a disk's segments are -/
def sgOK (K : List AK) (σ : RS) (a : AA) (s : Nat) : Prop := ∀ g, 4 ≤ g → g < 16 →
  σ.1 38 (2 * (16 * s + g)) = (aFc a s g).1 0 ∧ ((aFc a s g).1 0 = 0 ∨ (aFc a s g).1 0 = 1) ∧ (σ.1 44 (16 * s + g) = 0 ∨ σ.1 44 (16 * s + g) = 1) ∧ σ.1 37 (2 * (16 * s + g)) = (aFc a s g).1 1 ∧
  (aIsSeg a s g = true → (∃ S, SegF K σ (2 * (16 * s + g)) (aFc a s g) S) ∧ (aFc a s g).1 2 = Int32.ofNat (fsN a s g) ∧ 1 ≤ fsN a s g ∧ fsN a s g + (aWhole (aFc a s g)).length < 1073741824)
def wlN (a : AA) (s g : Nat) : Nat := (aWhole (aFc a s g)).length
def ofW (K : List AK) (a : AA) (s g : Nat) : Nat := ofs K (aFc a s g).2.1 (wlN a s g)
/-- what the reading of segments changes -/
def rcO (f i s : Nat) (done : List Nat) : Prop := (59 ≤ f ∧ f ≤ 62 ∧ i / 512 = s) ∨ ((f = 50 ∨ f = 51) ∧ i / 12 = s) ∨ (f = 49 ∧ i = s) ∨ (f = 37 ∧ ∃ g ∈ done, i = 2 * (16 * s + g)) ∨ (f = 44 ∧ ∃ g ∈ done, i = 16 * s + g)
def RcS (K : List AK) (σ : RS) (a : AA) (s b : Nat) (τ : RS) (done : List Nat) (L : List (AE × Int32)) : Prop :=
  (∀ f i, ¬ rcO f i s done → τ.1 f i = σ.1 f i) ∧ (∀ f i, ¬ (f = 63 ∧ i / 16384 = s) → τ.2 f i = σ.2 f i) ∧
  τ.1 49 s = Int32.ofNat done.length ∧ done.length ≤ 12 ∧ (∀ i, i < done.length → τ.1 50 (12 * s + i) = Int32.ofNat (done.getD i 0) ∧ τ.1 51 (12 * s + i) = (aFc a s (done.getD i 0)).1 2) ∧
  (∀ g ∈ done, 4 ≤ g ∧ g < 16 ∧ aIsSeg a s g = true ∧ τ.1 37 (2 * (16 * s + g)) = Int32.ofNat (ofW K a s g) ∧ (τ.1 44 (16 * s + g) = 1 ∨ (τ.1 44 (16 * s + g) = σ.1 44 (16 * s + g) ∧ τ.1 37 (2 * (16 * s + g)) = σ.1 37 (2 * (16 * s + g))))) ∧
  Lgs K τ s b L ∧ (∀ g ∈ done, ∀ k i, k < wlN a s g → i < L.length → b + 1 + i = fsN a s g + k → L.getD i (aE0, 0) = ((aFc a s g).2.1.getD k aE0, Int32.ofNat (ofs K (aFc a s g).2.1 k)))
theorem isSeg_b {a : AA} {s g : Nat} : aIsSeg a s g = true ↔ (aFc a s g).1 0 = 1 ∧ 24 ≤ (aFc a s g).1 1 := by
  unfold aIsSeg aWholeHead
  rw [Bool.and_eq_true_iff]
  exact and_congr decide_eq_true_iff decide_eq_true_iff
theorem M_isSegment {K : List AK} {σ τ : RS} {a : AA} {s b g : Nat} {done : List Nat} {L : List (AE × Int32)} (hs : s < 7) (hk : sgOK K σ a s) (hr : RcS K σ a s b τ done L) (h1 : 4 ≤ g) (h2 : g < 16) : m_isSegment τ (Int32.ofNat s) (Int32.ofNat g) = some (aB (aIsSeg a s g), τ) := by
  obtain ⟨r1, r2, r3, r4, r5, r6, r7, r8⟩ := hr
  obtain ⟨k1, k2, k3, k4, k5⟩ := hk g h1 h2
  have e38 : τ.1 38 (2 * (16 * s + g)) = (aFc a s g).1 0 := by
    rw [r1 38 _ (by unfold rcO; omega)]
    exact k1
  have e37 : 24 ≤ τ.1 37 (2 * (16 * s + g)) ↔ 24 ≤ (aFc a s g).1 1 := by
    by_cases q : g ∈ done
    · obtain ⟨g1, g2, g3, g4, g5⟩ := r6 g q
      obtain ⟨S, hS⟩ := (k5 g3).1
      obtain ⟨w1, w2, w3, w4⟩ := seg_whole hS
      have hS14 := hS.2.2.1
      have w2 : ofW K a s g ≤ S := w2
      have : 24 ≤ ofW K a s g := by
        unfold ofW ofs
        omega
      rw [g4]
      refine ⟨fun _ => (isSeg_b.mp g3).2, fun _ => ?_⟩
      rw [show (24 : Int32) = Int32.ofNat 24 from rfl, i_ltn (by omega) (by omega)]
      exact this
    · rw [r1 37 _ (by
        unfold rcO
        rintro (y | y | y | ⟨_, x, hx, ex⟩ | y)
        · omega
        · omega
        · omega
        · have : x = g := by omega
          exact q (this ▸ hx)
        · omega), k4]
  have gg : WP (m_isSegment τ (Int32.ofNat s) (Int32.ofNat g)) (fun p => p = (aB (aIsSeg a s g), τ)) := by
    unfold m_isSegment m_isSegment_b0 m_isSegment_b30 m_isSegment_b31
    refine WP_eq m_fileOf_n ?_
    refine WP_ld rfl 224 (by decide +kernel) (by omega) ?_
    rw [e38]
    refine WP_if c0_eq (fun q => ?_) (fun q => ?_)
    · rw [show aIsSeg a s g = false from b_false (fun z => by
        have := (isSeg_b.mp z).1
        rw [q] at this
        exact absurd this (by decide))]
      exact ⟨_, rfl, rfl⟩
    · refine WP_ld rfl 224 (by decide +kernel) (by omega) ?_
      refine WP_if c2_lt (fun q2 => ?_) (fun q2 => ?_)
      · rw [show aIsSeg a s g = false from b_false (fun z => Int32.not_le.mpr q2 (e37.mpr (isSeg_b.mp z).2))]
        exact ⟨_, rfl, rfl⟩
      · rw [show aIsSeg a s g = true from isSeg_b.mpr ⟨k2.resolve_left q, e37.mp (Int32.not_lt.mp q2)⟩]
        exact ⟨_, rfl, rfl⟩
  obtain ⟨x, x1, x2⟩ := gg
  rw [x1, x2]
theorem seg_mem {g : Nat} : g ∈ aSegs ↔ 4 ≤ g ∧ g < 16 := by
  unfold aSegs
  simp only [List.mem_cons, List.not_mem_nil, or_false]
  omega
def nxF (a : AA) (s : Nat) (n t : Int32) : Int32 := match aSegAt a s n t with
  | some g => Int32.ofNat g
  | none => -1
theorem M_follower {F : Nat} {K : List AK} {σ τ : RS} {a : AA} {s b : Nat} {done : List Nat} {L : List (AE × Int32)} {n t : Int32} (hF : 300 ≤ F) (hs : s < 7) (hk : sgOK K σ a s) (hr : RcS K σ a s b τ done L) : m_follower F τ (Int32.ofNat s) n t = some (nxF a s (n + 1) t, τ) := by
  have e36 : τ.2 36 = σ.2 36 := by
    funext j
    exact hr.2.1 36 j (by omega)
  have key : ∀ m k, 17 ≤ k + m → 4 ≤ k → k ≤ 16 → WP (m_follower_b3 F m τ (Int32.ofNat s) n t (Int32.ofNat k)) (fun p => p = ((match (aSegs.drop (k - 4)).find? (fun f => aIsSeg a s f && decide ((aFc a s f).1 2 = n + 1) && decide ((aFc a s f).1 3 = t)) with
    | some g => Int32.ofNat g
    | none => -1), τ)) := by
    intro m
    induction m with
    | zero => intro k h1 h2 h3; omega
    | succ m ih =>
      intro k h1 h2 h3
      unfold m_follower_b3
      refine WP_if (p := 16 ≤ k) (i_gei (q := 16) (by omega) (by omega)) (fun q => ?_) (fun q => ?_)
      · have : k = 16 := by omega
        subst this
        exact WP_some rfl
      · have hd : aSegs.drop (k - 4) = k :: aSegs.drop (k + 1 - 4) := by
          have h12 : k - 4 < aSegs.length := by
            show k - 4 < 12
            omega
          rw [List.drop_eq_getElem_cons h12]
          have e1 : aSegs[k - 4] = k := by
            have : k = 4 ∨ k = 5 ∨ k = 6 ∨ k = 7 ∨ k = 8 ∨ k = 9 ∨ k = 10 ∨ k = 11 ∨ k = 12 ∨ k = 13 ∨ k = 14 ∨ k = 15 := by omega
            rcases this with rfl | rfl | rfl | rfl | rfl | rfl | rfl | rfl | rfl | rfl | rfl | rfl <;> rfl
          rw [e1, show k - 4 + 1 = k + 1 - 4 by omega]
        rw [hd, List.find?_cons]
        unfold m_follower_b57
        rw [i_s]
        refine WP_eq (M_isSegment hs hk hr h2 (by omega)) ?_
        cases hb : aIsSeg a s k with
        | false =>
          simp only [Bool.false_and]
          refine WP_if c0_eq (fun _ => ?_) (fun y => absurd rfl y)
          exact ih (k + 1) (by omega) (by omega) (by omega)
        | true =>
          simp only [Bool.true_and]
          refine WP_if c0_eq (fun y => absurd (show (1 : Int32) = 0 from y) (by decide)) (fun _ => ?_)
          obtain ⟨S, hS⟩ := ((hk k h2 (by omega)).2.2.2.2 hb).1
          obtain ⟨rd1, rd2⟩ := seg_head hS e36
          refine WP_eq m_fileOf_n (WP_eq rd1 ?_)
          refine WP_if c2_ne (fun y => ?_) (fun y => ?_)
          · rw [decide_eq_false y, Bool.false_and]
            exact ih (k + 1) (by omega) (by omega) (by omega)
          · rw [decide_eq_true (Classical.not_not.mp y), Bool.true_and]
            refine WP_eq m_fileOf_n (WP_eq rd2 ?_)
            refine WP_if c2_ne (fun z => ?_) (fun z => ?_)
            · rw [decide_eq_false z]
              exact ih (k + 1) (by omega) (by omega) (by omega)
            · rw [decide_eq_true (Classical.not_not.mp z)]
              exact WP_some rfl
  unfold m_follower m_follower_b0
  obtain ⟨x, x1, x2⟩ := key F 4 (by omega) (Nat.le_refl _) (by omega)
  rw [show (4 : Int32) = Int32.ofNat 4 from rfl, x1, x2]
  rfl
