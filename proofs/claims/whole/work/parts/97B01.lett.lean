/-! letters in their places -/
theorem RM_27 {σ : RS} {a : AA} {u : AU} (h : RM σ a u) : σ.1 27 0 = aS a 27 0 := h.1.1 27 (by decide) 0 (by decide +kernel)
def sOf (f i b : Nat) : Prop := (6 ≤ f ∧ f ≤ 11 ∧ i = b) ∨ (f = 12 ∧ i / 8 = b) ∨ (13 ≤ f ∧ f ≤ 15 ∧ i / 6 = b)
/-- only what lies in a letter's place has changed -/
def SLf (b : Nat) (σ σ' : RS) : Prop := (∀ f i, ¬ sOf f i b → σ'.1 f i = σ.1 f i) ∧ ∀ f i, ¬ (f = 16 ∧ i / 192 = b) → σ'.2 f i = σ.2 f i
theorem SLf_refl {b : Nat} {σ : RS} : SLf b σ σ := ⟨fun _ _ _ => rfl, fun _ _ _ => rfl⟩
theorem SLf_I {b : Nat} {σ τ : RS} {f i : Nat} {v : Int32} (h : SLf b σ τ) (q : sOf f i b) : SLf b σ (setI τ f i v) := by
  refine ⟨fun g j hg => ?_, h.2⟩
  rw [← h.1 g j hg]
  exact if_neg (fun z => hg (by rw [z.1, z.2]; exact q))
theorem SLf_L {b : Nat} {σ τ : RS} {i : Nat} {v : Int64} (h : SLf b σ τ) (q : i / 192 = b) : SLf b σ (setL τ 16 i v) := by
  refine ⟨h.1, fun g j hg => ?_⟩
  rw [← h.2 g j hg]
  exact if_neg (fun z => hg ⟨z.1, by rw [z.2]; exact q⟩)
theorem SLf_t {b : Nat} {σ τ τ' : RS} (h : SLf b σ τ) (h' : SLf b τ τ') : SLf b σ τ' := ⟨fun f i q => (h'.1 f i q).trans (h.1 f i q), fun f i q => (h'.2 f i q).trans (h.2 f i q)⟩
theorem SLf_Fr {b : Nat} {σ σ' : RS} (h : SLf b σ σ') : Fr [6, 7, 8, 9, 10, 11, 12, 13, 14, 15] [16] σ σ' := by
  refine ⟨fun f hf => ?_, fun f hf => ?_⟩
  · funext i
    refine h.1 f i (fun z => hf ?_)
    unfold sOf at z
    simp
    omega
  · funext i
    exact h.2 f i (fun z => hf (by simp [z.1]))
theorem rLb_o {b k : Nat} {σ σ' : RS} (h : SLf b σ σ') (q : k ≠ b) {i : Nat} (hi : i < 1536) : rLb σ' k i = rLb σ k i := by
  unfold rLb rB
  rw [h.2 16 _ (by omega)]
theorem lTd_8 {K : List AK} {l : AL} {j : Nat} {v : Int32} (hv : lTd K l j = some v) : j < 8 := by
  unfold lTd at hv
  dsimp only at hv
  have g : ∀ (x : List Int32), x.length ≤ 8 → x[j]? = some v → j < 8 := fun x hx hy => by
    obtain ⟨hz, _⟩ := List.getElem?_eq_some_iff.mp hy
    omega
  repeat' split at hv
  all_goals first | exact g _ (by simp) hv | omega | (simp at hv)
theorem RLt_o {b k : Nat} {σ σ' : RS} {K : List AK} {l : AL} (h : SLf b σ σ') (q : k ≠ b) (hl : RLt K σ k l) : RLt K σ' k l := by
  obtain ⟨h1, h2, h3, h4, h5, h6, h7, ⟨U, hU, h8, h8a, h8b⟩, h9, h10, h11⟩ := hl
  have e : ∀ f, 6 ≤ f → f ≤ 11 → σ'.1 f k = σ.1 f k := fun f q1 q2 => h.1 f k (by unfold sOf; omega)
  refine ⟨(e 6 (by omega) (by omega)).trans h1, (e 7 (by omega) (by omega)).trans h2, (e 8 (by omega) (by omega)).trans h3, (e 9 (by omega) (by omega)).trans h4, (e 10 (by omega) (by omega)).trans h5, h6, h7, ⟨U, hU, (e 11 (by omega) (by omega)).trans h8, h8a, h8b⟩, fun j v hv => ?_, fun i v hv => ?_, fun i hi => ?_⟩
  · have := lTd_8 hv
    rw [h.1 12 _ (by unfold sOf; omega)]
    exact h9 j v hv
  · obtain ⟨hz, _⟩ := List.getElem?_eq_some_iff.mp hv
    rw [rLb_o h q (by omega)]
    exact h10 i v hv
  · obtain ⟨g1, g2, g3, g4, g5, g6⟩ := h11 i hi
    refine ⟨g1, g2, ?_, ?_, ?_, fun y v hy hv => ?_⟩
    · rw [h.1 13 _ (by unfold sOf; omega)]
      exact g3
    · rw [h.1 14 _ (by unfold sOf; omega)]
      exact g4
    · rw [h.1 15 _ (by unfold sOf; omega)]
      exact g5
    · show rLb σ' k (256 * i + y) = v
      rw [rLb_o h q (by omega)]
      exact g6 y v hy hv
/-- a place that has the same words as another has its letter -/
def cpT (a b : Nat) (σ σ' : RS) (T E W : Nat) : Prop := SLf b σ σ' ∧ (∀ f, 6 ≤ f → f ≤ 11 → σ'.1 f b = σ.1 f a) ∧ (∀ j, j < T → σ'.1 12 (8 * b + j) = σ.1 12 (8 * a + j)) ∧
  (∀ j, j < E → σ'.1 13 (6 * b + j) = σ.1 13 (6 * a + j) ∧ σ'.1 14 (6 * b + j) = σ.1 14 (6 * a + j) ∧ σ'.1 15 (6 * b + j) = σ.1 15 (6 * a + j)) ∧ ∀ j, j < W → σ'.2 16 (192 * b + j) = σ.2 16 (192 * a + j)
theorem RLt_cp {a b E W : Nat} {σ σ' : RS} {K : List AK} {l : AL} (h : cpT a b σ σ' 8 E W) (hE : l.2.1.length ≤ E) (hW : (σ.1 11 a).toNatClampNeg ≤ 8 * W) (hl : RLt K σ a l) : RLt K σ' b l := by
  obtain ⟨h1, h2, h3, h4, h5, h6, h7, ⟨U, hU, h8, h8a, h8b⟩, h9, h10, h11⟩ := hl
  obtain ⟨c1, c2, c3, c4, c5⟩ := h
  rw [h8, i_cl (by omega)] at hW
  have eB : ∀ i, i < U → rLb σ' b i = rLb σ a i := by
    intro i hi
    unfold rLb rB
    rw [show (1536 * b + i) / 8 = 192 * b + i / 8 by omega, show (1536 * a + i) / 8 = 192 * a + i / 8 by omega, c5 (i / 8) (by omega), show (1536 * b + i) % 8 = (1536 * a + i) % 8 by omega]
  refine ⟨(c2 6 (by omega) (by omega)).trans h1, (c2 7 (by omega) (by omega)).trans h2, (c2 8 (by omega) (by omega)).trans h3, (c2 9 (by omega) (by omega)).trans h4, (c2 10 (by omega) (by omega)).trans h5, h6, h7, ⟨U, hU, (c2 11 (by omega) (by omega)).trans h8, h8a, h8b⟩, fun j v hv => ?_, fun i v hv => ?_, fun i hi => ?_⟩
  · rw [c3 j (lTd_8 hv)]
    exact h9 j v hv
  · obtain ⟨hz, _⟩ := List.getElem?_eq_some_iff.mp hv
    rw [eB i (by omega)]
    exact h10 i v hv
  · obtain ⟨g1, g2, g3, g4, g5, g6⟩ := h11 i hi
    obtain ⟨x1, x2, x3⟩ := c4 i (by omega)
    refine ⟨g1, g2, x1.trans g3, x2.trans g4, x3.trans g5, fun y v hy hv => ?_⟩
    obtain ⟨hz, _⟩ := List.getElem?_eq_some_iff.mp hv
    have := h8b i hi
    show rLb σ' b (256 * i + y) = v
    rw [eB _ (by omega)]
    exact g6 y v hy hv
/-! copyLetter -/
theorem i_mc {c s : Nat} : Int32.ofNat c * Int32.ofNat s = Int32.ofNat (c * s) := (Int32.ofNat_mul c s).symm
theorem i_ad {c s : Nat} : Int32.ofNat c + Int32.ofNat s = Int32.ofNat (c + s) := (Int32.ofNat_add c s).symm
theorem i_ma {c s j : Nat} : Int32.ofNat c * Int32.ofNat s + Int32.ofNat j = Int32.ofNat (c * s + j) := by rw [i_mc, i_ad]
theorem i_gei {p q : Nat} (hp : p < 2147483648) (hq : q < 2147483648) : xc2 .ge (Int32.ofNat p) (Int32.ofNat q) = true ↔ q ≤ p := by
  rw [i_ge hp hq]
  exact decide_eq_true_iff
theorem WP_ld {σ : RS} {f n : Nat} {i : Int32} {β : Type} {g : Int32 → Option β} {Q : β → Prop} (hi : i = Int32.ofNat n) (L : Nat) (hL : rlen f = L) (hn : n < L) (k : WP (g (σ.1 f n)) Q) : WP ((rld σ f i).bind g) Q := WP_eq (rld_n hi (by omega)) k
theorem WP_ldL {σ : RS} {f n : Nat} {i : Int32} {β : Type} {g : Int64 → Option β} {Q : β → Prop} (hi : i = Int32.ofNat n) (L : Nat) (hL : rlen f = L) (hn : n < L) (k : WP (g (σ.2 f n)) Q) : WP ((rldL σ f i).bind g) Q := WP_eq (rldL_n hi (by omega)) k
theorem WP_st {σ : RS} {f n : Nat} {i v : Int32} {β : Type} {g : RS → Option β} {Q : β → Prop} (hi : i = Int32.ofNat n) (L : Nat) (hL : rlen f = L) (hn : n < L) (k : WP (g (setI σ f n v)) Q) : WP ((rst σ f i v).bind g) Q := WP_eq (rst_n hi (by omega)) k
theorem WP_stL {σ : RS} {f n : Nat} {i : Int32} {v : Int64} {β : Type} {g : RS → Option β} {Q : β → Prop} (hi : i = Int32.ofNat n) (L : Nat) (hL : rlen f = L) (hn : n < L) (k : WP (g (setL σ f n v)) Q) : WP ((rstL σ f i v).bind g) Q := WP_eq (rstL_n hi (by omega)) k
theorem cpW {F a b N W : Nat} {σ : RS} (ha : a < 354) (hb : b < 354) (hab : a ≠ b) {U : Nat} (hU : U ≤ 1536) (eU : σ.1 11 a = Int32.ofNat U) (hW : W = (U + 7) / 8) : ∀ n k (τ : RS), W + 1 ≤ k + n → k ≤ W → cpT a b σ τ 8 N k → WP (m_copyLetter_b194 F n τ (Int32.ofNat a) (Int32.ofNat b) (Int32.ofNat k)) (fun σ' => cpT a b σ σ' 8 N W) := by
  intro n
  induction n with
  | zero => intro k τ h1 h2; omega
  | succ n ih =>
    intro k τ h1 h2 h
    unfold m_copyLetter_b194
    refine WP_ld rfl 354 (by decide +kernel) ha ?_
    rw [h.1.1 11 a (by unfold sOf; omega), eU]
    refine WP_if (p := U ≤ 8 * k) (by rw [show (8 : Int32) * Int32.ofNat k = Int32.ofNat (8 * k) from i_mc]; exact i_gei (by omega) (by omega)) (fun q => ?_) (fun q => ?_)
    · rw [show W = k by omega] 
      exact WP_some h
    · refine WP_ldL (n := 192 * a + k) i_ma 67968 (by decide +kernel) (by omega) ?_
      refine WP_stL (n := 192 * b + k) i_ma 67968 (by decide +kernel) (by omega) ?_
      rw [i_s]
      refine ih (k + 1) _ (by omega) (by omega) ⟨SLf_L h.1 (by omega), h.2.1, h.2.2.1, h.2.2.2.1, fun j hj => ?_⟩
      by_cases q2 : j = k
      · rw [q2, setL_e]
        exact h.1.2 16 _ (by omega)
      · rw [setL_i (by omega)]
        exact h.2.2.2.2 j (by omega)
theorem cpE {F a b N W : Nat} {σ : RS} (hF : 400 ≤ F) (ha : a < 354) (hb : b < 354) (hab : a ≠ b) {U : Nat} (hU : U ≤ 1536) (eU : σ.1 11 a = Int32.ofNat U) (hW : W = (U + 7) / 8) (hN : N ≤ 6) (eN : σ.1 10 a = Int32.ofNat N) : ∀ n k (τ : RS), N + 1 ≤ k + n → k ≤ N → cpT a b σ τ 8 k 0 → WP (m_copyLetter_b110 F n τ (Int32.ofNat a) (Int32.ofNat b) (Int32.ofNat k)) (fun σ' => cpT a b σ σ' 8 N W) := by
  intro n
  induction n with
  | zero => intro k τ h1 h2; omega
  | succ n ih =>
    intro k τ h1 h2 h
    unfold m_copyLetter_b110
    refine WP_ld rfl 354 (by decide +kernel) ha ?_
    rw [h.1.1 10 a (by unfold sOf; omega), eN]
    refine WP_if (p := N ≤ k) (i_gei (by omega) (by omega)) (fun q => ?_) (fun q => ?_)
    · have : k = N := by omega
      subst this
      exact cpW ha hb hab hU eU hW F 0 τ (by omega) (by omega) h
    · refine WP_ld (n := 6 * a + k) i_ma 2124 (by decide +kernel) (by omega) ?_
      refine WP_st (n := 6 * b + k) i_ma 2124 (by decide +kernel) (by omega) ?_
      refine WP_ld (n := 6 * a + k) i_ma 2124 (by decide +kernel) (by omega) ?_
      refine WP_st (n := 6 * b + k) i_ma 2124 (by decide +kernel) (by omega) ?_
      refine WP_ld (n := 6 * a + k) i_ma 2124 (by decide +kernel) (by omega) ?_
      refine WP_st (n := 6 * b + k) i_ma 2124 (by decide +kernel) (by omega) ?_
      rw [i_s]
      refine ih (k + 1) _ (by omega) (by omega) ⟨SLf_I (SLf_I (SLf_I h.1 (by unfold sOf; omega)) (by unfold sOf; omega)) (by unfold sOf; omega), fun f q1 q2 => ?_, fun j hj => ?_, fun j hj => ?_, fun j hj => absurd hj (Nat.not_lt_zero _)⟩
      · rw [setI_f (by omega), setI_f (by omega), setI_f (by omega)]
        exact h.2.1 f q1 q2
      · rw [setI_f (by omega), setI_f (by omega), setI_f (by omega)]
        exact h.2.2.1 j hj
      · by_cases q2 : j = k
        · subst q2
          refine ⟨?_, ?_, ?_⟩
          · rw [setI_f (by omega), setI_f (by omega), setI_e]
            exact h.1.1 13 _ (by unfold sOf; omega)
          · rw [setI_f (by omega), setI_e, setI_f (by omega)]
            exact h.1.1 14 _ (by unfold sOf; omega)
          · rw [setI_e, setI_f (by omega), setI_f (by omega)]
            exact h.1.1 15 _ (by unfold sOf; omega)
        · obtain ⟨x1, x2, x3⟩ := h.2.2.2.1 j (by omega)
          refine ⟨?_, ?_, ?_⟩
          · rw [setI_f (by omega), setI_f (by omega), setI_i (by omega)]
            exact x1
          · rw [setI_f (by omega), setI_i (by omega), setI_f (by omega)]
            exact x2
          · rw [setI_i (by omega), setI_f (by omega), setI_f (by omega)]
            exact x3
theorem cpD {F a b N W : Nat} {σ : RS} (hF : 400 ≤ F) (ha : a < 354) (hb : b < 354) (hab : a ≠ b) {U : Nat} (hU : U ≤ 1536) (eU : σ.1 11 a = Int32.ofNat U) (hW : W = (U + 7) / 8) (hN : N ≤ 6) (eN : σ.1 10 a = Int32.ofNat N) : ∀ n k (τ : RS), 9 ≤ k + n → k ≤ 8 → cpT a b σ τ k 0 0 → WP (m_copyLetter_b74 F n τ (Int32.ofNat a) (Int32.ofNat b) (Int32.ofNat k)) (fun σ' => cpT a b σ σ' 8 N W) := by
  intro n
  induction n with
  | zero => intro k τ h1 h2; omega
  | succ n ih =>
    intro k τ h1 h2 h
    unfold m_copyLetter_b74
    refine WP_if (p := 8 ≤ k) (i_gei (q := 8) (by omega) (by omega)) (fun q => ?_) (fun q => ?_)
    · have : k = 8 := by omega
      subst this
      exact cpE hF ha hb hab hU eU hW hN eN F 0 τ (by omega) (by omega) h
    · refine WP_ld (n := 8 * a + k) i_ma 2832 (by decide +kernel) (by omega) ?_
      refine WP_st (n := 8 * b + k) i_ma 2832 (by decide +kernel) (by omega) ?_
      rw [i_s]
      refine ih (k + 1) _ (by omega) (by omega) ⟨SLf_I h.1 (by unfold sOf; omega), fun f q1 q2 => ?_, fun j hj => ?_, fun j hj => absurd hj (Nat.not_lt_zero _), fun j hj => absurd hj (Nat.not_lt_zero _)⟩
      · rw [setI_f (by omega)]
        exact h.2.1 f q1 q2
      · by_cases q2 : j = k
        · rw [q2, setI_e]
          exact h.1.1 12 _ (by unfold sOf; omega)
        · rw [setI_i (by omega)]
          exact h.2.2.1 j (by omega)
theorem M_copyLetter {F a b : Nat} {σ : RS} {K : List AK} {l : AL} (hF : 400 ≤ F) (ha : a < 354) (hb : b < 354) (hab : a ≠ b) (hl : RLt K σ a l) : WP (m_copyLetter F σ (Int32.ofNat a) (Int32.ofNat b)) (fun σ' => SLf b σ σ' ∧ RLt K σ' b l) := by
  obtain ⟨U, hU, eU, _, _⟩ := hl.2.2.2.2.2.2.2.1
  have key : WP (m_copyLetter F σ (Int32.ofNat a) (Int32.ofNat b)) (fun σ' => cpT a b σ σ' 8 l.2.1.length ((U + 7) / 8)) := by
    unfold m_copyLetter m_copyLetter_b0
    refine WP_ld rfl 354 (by decide +kernel) ha ?_
    refine WP_st rfl 354 (by decide +kernel) hb ?_
    refine WP_ld rfl 354 (by decide +kernel) ha ?_
    refine WP_st rfl 354 (by decide +kernel) hb ?_
    refine WP_ld rfl 354 (by decide +kernel) ha ?_
    refine WP_st rfl 354 (by decide +kernel) hb ?_
    refine WP_ld rfl 354 (by decide +kernel) ha ?_
    refine WP_st rfl 354 (by decide +kernel) hb ?_
    refine WP_ld rfl 354 (by decide +kernel) ha ?_
    refine WP_st rfl 354 (by decide +kernel) hb ?_
    refine WP_ld rfl 354 (by decide +kernel) ha ?_
    refine WP_st rfl 354 (by decide +kernel) hb ?_
    refine cpD hF ha hb hab hU eU rfl hl.2.2.2.2.2.1 hl.2.2.2.2.1 F 0 _ (by omega) (by omega) ⟨?_, fun f q1 q2 => ?_, fun j hj => absurd hj (Nat.not_lt_zero _), fun j hj => absurd hj (Nat.not_lt_zero _), fun j hj => absurd hj (Nat.not_lt_zero _)⟩
    · refine SLf_I (SLf_I (SLf_I (SLf_I (SLf_I (SLf_I SLf_refl ?_) ?_) ?_) ?_) ?_) ?_ <;> (unfold sOf; omega)
    · obtain rfl | rfl | rfl | rfl | rfl | rfl : f = 6 ∨ f = 7 ∨ f = 8 ∨ f = 9 ∨ f = 10 ∨ f = 11 := by omega
      all_goals simp [setI, hab]
  refine WP_mono key (fun σ' h => ⟨h.1, RLt_cp h (Nat.le_refl _) ?_ hl⟩)
  rw [eU, i_cl (by omega)]
  omega
