/-! flags; the log's places; a new segment -/
theorem RM_off {σ : RS} {a : AA} {u : AU} (h : RM σ a u) (k : Nat) : RM σ a (u.1, fun x => u.2 x ∧ x ≠ k) := by
  obtain ⟨h0, h1, h2, h3, h4, h5, h6, h7, h8, h9, h10, h11, h12, h13, h14, h15, h16, h17, h18, h19, h20, h21, h22, h23⟩ := h
  exact ⟨h0, h1, h2, h3, h4, h5, h6, h7, h8, h9, h10, h11, h12, h13, h14, h15, h16, h17, h18, h19, h20, fun s hs z => h21 s hs z.1, fun s hs z => h22 s hs z.1, fun s hs z => h23 s hs z.1⟩
theorem RM_on {σ : RS} {a : AA} {u : AU} {s : Nat} (h : RM σ a (u.1, fun x => u.2 x ∧ x ≠ s)) (hs : s < 7) (hw : u.2 s → aS a 52 s = 1 → WCh a s) : RM σ a u := by
  obtain ⟨h0, h1, h2, h3, h4, h5, h6, h7, h8, h9, h10, h11, h12, h13, h14, h15, h16, h17, h18, h19, h20, h21, h22, h23⟩ := h
  refine ⟨h0, h1, h2, h3, h4, h5, h6, h7, h8, h9, h10, h11, h12, h13, h14, h15, h16, h17, h18, h19, h20, fun t ht z hu => ?_, fun t ht z => h22 t ht ⟨z, by omega⟩, fun t ht z => h23 t ht ⟨z, by omega⟩⟩
  by_cases q : t = s
  · rw [q] at z hu ⊢
    exact hw z hu
  · exact h21 t ht ⟨z, q⟩ hu
theorem rMod_n {n : Int32} (h : 0 ≤ n.toInt) : rMod n = n.toInt.toNat % 512 := by
  unfold rMod
  have : n.toInt = n.toBitVec.toInt := rfl
  rw [this] at h ⊢
  rw [BitVec.toInt_eq_toNat_cond] at h ⊢
  split at h
  · rw [if_pos (by assumption)]
    omega
  · have := n.toBitVec.isLt
    omega
theorem rLp_ne {a : AA} {s i j : Nat} (w : WLg a s) (hi : i ≤ (aLg a s).length) (hj : j ≤ (aLg a s).length) (hij : i ≠ j) : rLp s (aBase a s + 1 + Int32.ofNat i) ≠ rLp s (aBase a s + 1 + Int32.ofNat j) := by
  have e1 := aB_n w hi
  have e2 := aB_n w hj
  obtain ⟨w1, w2, w3, w4⟩ := w
  unfold rLp
  rw [rMod_n (by omega), rMod_n (by omega), e1, e2]
  omega
/-- only what lies in a log's place has changed -/
def SLg (p : Nat) (σ σ' : RS) : Prop := (∀ f i, ¬ (59 ≤ f ∧ f ≤ 62 ∧ i = p) → σ'.1 f i = σ.1 f i) ∧ ∀ f i, ¬ (f = 63 ∧ i / 32 = p) → σ'.2 f i = σ.2 f i
theorem SLg_refl {p : Nat} {σ : RS} : SLg p σ σ := ⟨fun _ _ _ => rfl, fun _ _ _ => rfl⟩
theorem SLg_I {b : Nat} {σ τ : RS} {f i : Nat} {v : Int32} (h : SLg b σ τ) (q : 59 ≤ f ∧ f ≤ 62 ∧ i = b) : SLg b σ (setI τ f i v) := by
  refine ⟨fun g j hg => ?_, h.2⟩
  rw [← h.1 g j hg]
  exact if_neg (fun z => hg (by rw [z.1, z.2]; exact q))
theorem SLg_L {b : Nat} {σ τ : RS} {i : Nat} {v : Int64} (h : SLg b σ τ) (q : i / 32 = b) : SLg b σ (setL τ 63 i v) := by
  refine ⟨h.1, fun g j hg => ?_⟩
  rw [← h.2 g j hg]
  exact if_neg (fun z => hg ⟨z.1, by rw [z.2]; exact q⟩)
theorem SLg_t {b : Nat} {σ τ τ' : RS} (h : SLg b σ τ) (h' : SLg b τ τ') : SLg b σ τ' := ⟨fun f i q => (h'.1 f i q).trans (h.1 f i q), fun f i q => (h'.2 f i q).trans (h.2 f i q)⟩
theorem SLg_Fr {b : Nat} {σ σ' : RS} (h : SLg b σ σ') : Fr [59, 60, 61, 62] [63] σ σ' := by
  refine ⟨fun f hf => ?_, fun f hf => ?_⟩
  · funext i
    refine h.1 f i (fun z => hf ?_)
    simp
    omega
  · funext i
    exact h.2 f i (fun z => hf (by simp [z.1]))
theorem SLg_b {p p' : Nat} {σ σ' : RS} (h : SLg p σ σ') (q : p' ≠ p) {i : Nat} (hi : i < 256) : rB (σ'.2 63) (256 * p' + i) = rB (σ.2 63) (256 * p' + i) := by
  unfold rB
  rw [h.2 63 _ (by omega)]
theorem RLog_o {K : List AK} {σ σ' : RS} {p s : Nat} {b : Int32} {g : List AE} (h : SLg p σ σ') (q : ∀ i, i < g.length → rLp s (b + 1 + Int32.ofNat i) ≠ p) (z : RLog K σ s b g) : RLog K σ' s b g := by
  intro i hi
  obtain ⟨z1, z2, z3, z4, z5, z6⟩ := z i hi
  have hq := q i hi
  refine ⟨(h.1 59 _ (by omega)).trans z1, (h.1 60 _ (by omega)).trans z2, (h.1 61 _ (by omega)).trans z3, z4, z5, fun y v hy hv => ?_⟩
  show rB (σ'.2 63) _ = v
  rw [SLg_b h hq hy]
  exact z6 y v hy hv
theorem RAt_o {σ σ' : RS} {p s : Nat} {b : Int32} {g : List AE} {fc : Nat → AF} {ch : List Nat} (h : SLg p σ σ') (q : ∀ i, i < g.length → rLp s (b + 1 + Int32.ofNat i) ≠ p) (z : RAt σ s b g fc ch) : RAt σ' s b g fc ch := by
  intro f hf k i hi hk e
  rw [h.1 62 _ (by have := q i hi; omega)]
  exact z f hf k i hi hk e
/-- the place behind the log's last is free -/
def lPn (a : AA) (s : Nat) : Nat := rLp s (aLast a s + 1)
theorem lPn_e {a : AA} {s : Nat} (w : WLg a s) : aLast a s + 1 = aBase a s + 1 + Int32.ofNat (aLg a s).length := by
  have e := aB_n w (Nat.le_refl _)
  obtain ⟨w1, w2, w3, w4⟩ := w
  rw [← Int32.toInt_inj, e, i_succ (by omega)]
  omega
theorem lPn_free {a : AA} {s t i : Nat} (w : WLg a t) (w' : WLg a s) (ht : t < 7) (hs : s < 7) (hi : i < (aLg a t).length) : rLp t (aBase a t + 1 + Int32.ofNat i) ≠ lPn a s := by
  unfold lPn
  by_cases q : t = s
  · subst q
    rw [lPn_e w]
    exact rLp_ne w (by omega) (Nat.le_refl _) (by omega)
  · unfold rLp
    have h1 := @rMod_lt (aBase a t + 1 + Int32.ofNat i)
    have h2 := @rMod_lt (aLast a s + 1)
    omega
theorem RM_lgp {σ σ' : RS} {a : AA} {u : AU} {s : Nat} (h : RM σ a u) (hs : s < 7) (hS : SLg (lPn a s) σ σ') : RM σ' a u := by
  have hF := SLg_Fr hS
  have hw := RM_wl h hs
  exact ⟨RSc_fr hF (by decide) h.1, RWay_fr hF (by decide) h.2.1, fun s hs => RWt_fr hF (by decide) (h.2.2.1 s hs), fun l hl => RLt_fr hF (by decide) (h.2.2.2.1 l hl), fun t ht => RLog_o hS (fun i hi => lPn_free (h.2.2.2.2.2.2.2.2.2.2.2.2.2.2.2.2.2.2.2.2.1 t ht) hw ht hs hi) (h.2.2.2.2.1 t ht), fun s hs => RDk_fr hF (by decide) (h.2.2.2.2.2.1 s hs), fun s hs => RSl_fr hF (by decide) (h.2.2.2.2.2.2.1 s hs), fun s hs hu => RCh_fr hF (by decide) (h.2.2.2.2.2.2.2.1 s hs hu), fun t ht hu => RAt_o hS (fun i hi => lPn_free (h.2.2.2.2.2.2.2.2.2.2.2.2.2.2.2.2.2.2.2.2.1 t ht) hw ht hs hi) (h.2.2.2.2.2.2.2.2.1 t ht hu), fun s hs => RMc_fr hF (by decide) (h.2.2.2.2.2.2.2.2.2.1 s hs), fun s hs => RSh_fr hF (by decide) (h.2.2.2.2.2.2.2.2.2.2.1 s hs), fun s hs => RPc_fr hF (by decide) (h.2.2.2.2.2.2.2.2.2.2.2.1 s hs), fun s hs => RRq_fr hF (by decide) (h.2.2.2.2.2.2.2.2.2.2.2.2.1 s hs), RAk_fr hF (by decide) h.2.2.2.2.2.2.2.2.2.2.2.2.2.1, fun s hs => RWn_fr hF (by decide) (h.2.2.2.2.2.2.2.2.2.2.2.2.2.2.1 s hs), RTp_fr hF (by decide) h.2.2.2.2.2.2.2.2.2.2.2.2.2.2.2.1, RRe_fr hF (by decide) h.2.2.2.2.2.2.2.2.2.2.2.2.2.2.2.2.1, fun s hs => RDn_fr hF (by decide) (h.2.2.2.2.2.2.2.2.2.2.2.2.2.2.2.2.2.1 s hs), RSum_fr hF (by decide) h.2.2.2.2.2.2.2.2.2.2.2.2.2.2.2.2.2.2.1, h.2.2.2.2.2.2.2.2.2.2.2.2.2.2.2.2.2.2.2.1, h.2.2.2.2.2.2.2.2.2.2.2.2.2.2.2.2.2.2.2.2.1, h.2.2.2.2.2.2.2.2.2.2.2.2.2.2.2.2.2.2.2.2.2.1, h.2.2.2.2.2.2.2.2.2.2.2.2.2.2.2.2.2.2.2.2.2.2.1, h.2.2.2.2.2.2.2.2.2.2.2.2.2.2.2.2.2.2.2.2.2.2.2⟩
theorem pigeon4 : ∀ (n : Nat) (l : List Nat), l.Nodup → (∀ k, k < n → k + 4 ∈ l) → n ≤ l.length := by
  intro n
  induction n with
  | zero => exact fun _ _ _ => Nat.zero_le _
  | succ n ih =>
    intro l h1 h2
    have h3 := List.length_erase_of_mem (h2 n (by omega))
    have h4 := List.length_pos_of_mem (h2 n (by omega))
    have := ih (l.erase (n + 4)) (h1.erase _) (fun k hk => (List.mem_erase_of_ne (by omega)).mpr (h2 k (by omega)))
    omega
/-- the first file that is free -/
theorem aFree_e {a : AA} {s : Nat} (h : ∃ f, 4 ≤ f ∧ f < 16 ∧ (aFc a s f).1 0 = 0) : ∃ f, aFree a s = some f ∧ 4 ≤ f ∧ f < 16 ∧ (aFc a s f).1 0 = 0 ∧ ∀ g, 4 ≤ g → g < f → ¬ (aFc a s g).1 0 = 0 := by
  obtain ⟨f0, h1, h2, h3⟩ := h
  have hm : ∀ g, g ∈ (List.range 16).drop 4 ↔ 4 ≤ g ∧ g < 16 := by
    intro g
    constructor
    · intro hg
      have : g ∈ [4, 5, 6, 7, 8, 9, 10, 11, 12, 13, 14, 15] := hg
      simp at this
      omega
    · intro hg
      show g ∈ [4, 5, 6, 7, 8, 9, 10, 11, 12, 13, 14, 15]
      simp
      omega
  cases e : aFree a s with
  | none =>
    unfold aFree at e
    have := List.find?_eq_none.mp e f0 ((hm f0).mpr ⟨h1, h2⟩)
    simp [h3] at this
  | some f =>
    unfold aFree at e
    obtain ⟨e1, l1, l2, e2, e3⟩ := List.find?_eq_some_iff_append.mp e
    have hf := (hm f).mp (by rw [e2]; simp)
    refine ⟨f, rfl, hf.1, hf.2, of_decide_eq_true e1, fun g hg1 hg2 => ?_⟩
    have hg := (hm g).mpr ⟨hg1, by omega⟩
    have hsort : ((List.range 16).drop 4).Pairwise (· < ·) := by decide
    rw [e2] at hg hsort
    rcases List.mem_append.mp hg with z | z
    · have := e3 g z
      simpa using this
    · rcases List.mem_cons.mp z with z | z
      · omega
      · have := (List.pairwise_append.mp hsort).2.1
        have := (List.pairwise_cons.mp this).1 g z
        omega
theorem free_ex {a : AA} {s : Nat} (h : WCh a s) (hl : (aCh a s).length < 12) : ∃ f, 4 ≤ f ∧ f < 16 ∧ (aFc a s f).1 0 = 0 ∨ (∃ f, 4 ≤ f ∧ f < 16 ∧ ¬ (aFc a s f).1 0 = 0 ∧ ¬ (aFc a s f).1 0 = 1) := by
  by_cases q : ∃ k, k < 12 ∧ k + 4 ∉ aCh a s
  · obtain ⟨k, hk, hn⟩ := q
    refine ⟨k + 4, ?_⟩
    have := fun z => hn (h.2.1 (k + 4) (by omega) (by omega) z)
    by_cases q0 : (aFc a s (k + 4)).1 0 = 0
    · exact Or.inl ⟨by omega, by omega, q0⟩
    · exact Or.inr ⟨k + 4, by omega, by omega, q0, this⟩
  · have := pigeon4 12 (aCh a s) h.1 (fun k hk => Classical.not_not.mp (fun z => q ⟨k, hk, z⟩))
    omega
