/-! the store behind the reading -/
/-- the files behind the reading -/
def fcR (K : List AK) (a : AA) (s : Nat) (done c : List Nat) (f : Nat) : AF := if f ∈ done then (if f ∈ c then fT (aFc a s f) else fC K (aFc a s f)) else aFc a s f
theorem RM_rdT {σ σ' τ : RS} {a : AA} {u : AU} {s b : Nat} {c : List Nat} {es : List AE} (h : RM σ a u) (hs : s < 7) (z1 : ¬ u.2 s) (z2 : ¬ u.2 (14 + s)) (z3 : ¬ u.2 (7 + s))
    (hσ : ∀ f i, ¬ (f = 49 ∧ i = s) → ¬ (f = 56 ∧ i = s) → ¬ (f = 52 ∧ i = s) → σ'.1 f i = σ.1 f i) (hσ2 : σ'.2 = σ.2) (h52 : σ'.1 52 s = 1)
    (hk : sgOK (aAk a) σ' a s) (hE : RdE (aAk a) σ' a s b τ c es) (e55 : aS a 55 s = Int32.ofNat b) (hb : b + 300 < 1073741824) (hes : es.length ≤ 300) :
    ∃ done, (∀ g ∈ done, 4 ≤ g ∧ g < 16 ∧ aIsSeg a s g = true) ∧ (∀ g ∈ c, g ∈ done) ∧ RM (z43 s 0 τ) (recB a s b (fcR (aAk a) a s done c) c es) u ∧ ∀ i, τ.1 43 i = σ.1 43 i := by
  obtain ⟨done, L, r0, r1, r2, r3, r4, r5, r6, r7, r8, r9⟩ := hE
  have hcd : ∀ g ∈ c, g ∈ done := by
    rcases r0 with ⟨y, _⟩ | ⟨y, _⟩
    · rw [y]
      exact fun g hg => hg
    · rw [y]
      exact fun g hg => absurd hg (by simp)
  have hrow : ∀ i, i < c.length → c.getD i 0 ∈ done ∧ τ.1 50 (12 * s + i) = Int32.ofNat (c.getD i 0) ∧ τ.1 51 (12 * s + i) = (aFc a s (c.getD i 0)).1 2 := by
    intro i hi
    rcases r0 with ⟨y, _⟩ | ⟨y, _⟩
    · rw [y] at hi ⊢
      exact ⟨getD_mem hi, r5 i hi⟩
    · rw [y] at hi
      exact absurd hi (Nat.not_lt_zero _)
  have hce : c ≠ [] → es = L.map Prod.fst := by
    intro q
    rcases r0 with ⟨_, y⟩ | ⟨y, _⟩
    · exact y
    · exact absurd y q
  have hlen : c.length ≤ 12 := by
    rcases r0 with ⟨y, _⟩ | ⟨y, _⟩
    · rw [y]
      exact r4
    · rw [y]
      decide
  have heL : ∀ i, i < es.length → i < L.length ∧ es.getD i aE0 = (L.getD i (aE0, 0)).1 := by
    intro i hi
    rcases r0 with ⟨_, y⟩ | ⟨_, y⟩
    · rw [y, List.length_map] at hi
      refine ⟨hi, ?_⟩
      rw [y, List.getD_eq_getElem?_getD, List.getD_eq_getElem?_getD, List.getElem?_map, List.getElem?_eq_getElem hi]
      rfl
    · rw [y] at hi
      exact absurd hi (Nat.not_lt_zero _)
  have e36 : τ.2 36 = σ.2 36 := by
    funext i
    rw [r2 36 i (by omega), hσ2]
  have m1 : ∀ f i, ¬ rcO f i s done → ¬ (f = 56 ∧ i = s) → ¬ (f = 52 ∧ i = s) → τ.1 f i = σ.1 f i := by
    intro f i h1 h2 h3
    rw [r1 f i h1 h2]
    exact hσ f i (fun z => h1 (Or.inr (Or.inr (Or.inl z)))) h2 h3
  have hfT : ∀ g, g ∈ done → ∃ S, SegF (aAk a) σ (2 * rFx s g) (aFc a s g) S ∧ aIsSeg a s g = true := by
    intro g hg
    obtain ⟨g1, g2, g3, g4, g5⟩ := r6 g hg
    obtain ⟨S, hS⟩ := ((hk g g1 g2).2.2.2.2 g3).1
    refine ⟨S, ⟨hS.1, hS.2.1, hS.2.2.1, hS.2.2.2.1, hS.2.2.2.2.1, ?_, hS.2.2.2.2.2.2⟩, g3⟩
    have := hS.2.2.2.2.2.1
    rw [hσ2] at this
    exact this
  have hgeo : ∀ f, 4 ≤ f → f < 16 → ∀ g, g ∈ [38, 39, 40, 41, 42] → τ.1 g (2 * rFx s f) = σ.1 g (2 * rFx s f) := by
    intro f _ _ g hg
    refine m1 g _ ?_ (by simp at hg; omega) (by simp at hg; omega)
    unfold rcO
    simp at hg
    rintro (y | y | y | ⟨y, _⟩ | ⟨y, _⟩) <;> omega
  refine ⟨done, fun g hg => ⟨(r6 g hg).1, (r6 g hg).2.1, (r6 g hg).2.2.1⟩, hcd, RM_rd h hs z1 z2 z3 m1 (fun f i q => by rw [r2 f i q, hσ2]) ?_ r9 e55 hb hes ?_ (fun g hg => ?_) (fun f hf => ⟨fun hd => ?_, fun hd => if_neg hd⟩) ?_ ?_, fun i => ?_⟩
  · rw [r1 52 s (by unfold rcO; omega) (by omega)]
    exact h52
  · intro i hi
    obtain ⟨q1, q2⟩ := heL i hi
    obtain ⟨y1, y2, y3, y4, y5, y6, y7⟩ := r7 i q1
    have ep : rLp s (Int32.ofNat b + 1 + Int32.ofNat i) = rPl s (b + 1 + i) := by
      rw [i_s, i_ad, rPl_e (by omega)]
    dsimp only
    rw [ep, q2]
    exact ⟨y1, y2, y3, y4, y5, y6⟩
  · obtain ⟨g1, g2, g3, g4, g5⟩ := r6 g hg
    refine ⟨g1, g2, g5.imp id (fun y => ⟨y.1.trans ?_, y.2.trans ?_⟩)⟩
    · exact hσ 44 _ (by omega) (by omega) (by omega)
    · exact hσ 37 _ (by omega) (by omega) (by omega)
  · obtain ⟨g1, g2, g3, g4, g5⟩ := r6 f hd
    obtain ⟨S, hS, _⟩ := hfT f hd
    obtain ⟨w1, w2, w3, w4⟩ := seg_whole hS
    have old := (h.2.2.2.2.2.1 s hs f hf).1
    unfold fcR
    rw [if_pos hd]
    by_cases q : f ∈ c
    · rw [if_pos q]
      exact RFl_T old hS g1 (hgeo f g1 g2) e36 (isSeg_b.mp g3).1 g4
    · rw [if_neg q]
      refine RFl_cut old (Or.inr g1) (hgeo f g1 g2) e36 ?_ g4
      rw [old.2.2.1, hS.2.2.2.1, i_cl (by have := hS.2.2.1; omega)]
      exact w2
  · refine ⟨r3, hlen, fun i hi => ?_⟩
    obtain ⟨q1, q2, q3⟩ := hrow i hi
    refine ⟨(r6 _ q1).1, (r6 _ q1).2.1, q2, q3.trans ?_⟩
    unfold fcR
    rw [if_pos q1]
    by_cases q : c.getD i 0 ∈ c
    · rw [if_pos q]
      rfl
    · rw [if_neg q]
      rfl
  · intro f hf k i hi hk2 e
    have hd := hcd f hf
    obtain ⟨S, hS, hsg⟩ := hfT f hd
    obtain ⟨w1, w2, w3, w4⟩ := seg_whole hS
    have ef : fcR (aAk a) a s done c f = fT (aFc a s f) := by
      unfold fcR
      rw [if_pos hd, if_pos hf]
    rw [ef] at hk2 e ⊢
    rw [fT_whole hS] at hk2
    obtain ⟨q1, q2⟩ := heL i hi
    obtain ⟨y1, y2, y3, y4, y5, y6, y7⟩ := r7 i q1
    obtain ⟨k5, k6, k7, k8⟩ := (hk f (r6 f hd).1 (r6 f hd).2.1).2.2.2.2 hsg
    have ep : rLp s (Int32.ofNat b + 1 + Int32.ofNat i) = rPl s (b + 1 + i) := by
      rw [i_s, i_ad, rPl_e (by omega)]
    have e : Int32.ofNat b + 1 + Int32.ofNat i = (aFc a s f).1 2 + Int32.ofNat k := e
    rw [k6, i_s, i_ad, i_ad, i_eqi (by omega) (by omega)] at e
    have := r8 f hd k i hk2 q1 e
    rw [ep, y7, this, frame_T w4 (by omega), frame_ofs (segF_wf hS)]
  · rw [r1 43 i (by unfold rcO; omega) (by omega)]
    exact hσ 43 i (by omega) (by omega) (by omega)
