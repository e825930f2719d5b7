/-! a new key is put between the others -/
theorem i_add1m {n : Nat} (h : 1 ≤ n) : Int32.ofNat n + (-1) = Int32.ofNat (n - 1) := by
  rw [← Int32.sub_eq_add_neg]
  exact i_pre h
theorem i_lei {p q : Nat} (hp : p < 2147483648) (hq : q < 2147483648) : xc2 .le (Int32.ofNat p) (Int32.ofNat q) = true ↔ p ≤ q := by
  rw [i_le hp hq]
  exact decide_eq_true_iff
/-- what lies there when a key was put between the others -/
def kIns (s r f0 : Nat) (L : Nat) (k v : List Int32) (σ τ : RS) : Prop := SLm s σ τ ∧ τ.1 113 s = Int32.ofNat (L + 1) ∧
  (∀ i, i < 128 → τ.1 118 (128 * s + i) = if i < r then σ.1 118 (128 * s + i) else if i = r then Int32.ofNat f0 else if i ≤ L then σ.1 118 (128 * s + (i - 1)) else σ.1 118 (128 * s + i)) ∧
  (∀ i, i < 128 → τ.1 119 (128 * s + i) = if i = f0 then 1 else σ.1 119 (128 * s + i)) ∧
  τ.1 114 (128 * s + f0) = Int32.ofNat k.length ∧ (∀ j, j < k.length → τ.1 116 (32 * (128 * s + f0) + j) = k.getD j 0) ∧
  τ.1 115 (128 * s + f0) = Int32.ofNat v.length ∧ (∀ j, j < v.length → τ.1 117 (100 * (128 * s + f0) + j) = v.getD j 0) ∧
  (∀ i, i ≠ 128 * s + f0 → τ.1 114 i = σ.1 114 i ∧ τ.1 115 i = σ.1 115 i) ∧ (∀ i, i / 32 ≠ 128 * s + f0 → τ.1 116 i = σ.1 116 i) ∧ (∀ i, i / 100 ≠ 128 * s + f0 → τ.1 117 i = σ.1 117 i) ∧
  (∀ f, 106 ≤ f → f ≤ 112 → ∀ i, τ.1 f i = σ.1 f i)
theorem RK_ins {σ τ : RS} {s r f0 : Nat} {L : List (List Int32 × List Int32)} {sl : List Nat} {k v : List Int32} (h : RKs σ s L sl) (hL : L.length < 128) (hr : r ≤ L.length) (hf : f0 < 128) (hf2 : σ.1 119 (128 * s + f0) = 0) (hw : ∀ i, i < L.length → (L.getD i ([], [])).1.length ≤ 32 ∧ (L.getD i ([], [])).2.length ≤ 100) (hi : kIns s r f0 L.length k v σ τ) : RKs τ s (L.take r ++ (k, v) :: L.drop r) (sl.take r ++ f0 :: sl.drop r) := by
  obtain ⟨h1, h2, h3, h4, h5⟩ := h
  obtain ⟨k0, k1, k2, k3, k4, k5, k6, k7, k8, k9, k10, k11⟩ := hi
  have hn : f0 ∉ sl := by
    intro z
    have := h4 f0 hf
    rw [if_pos z, hf2] at this
    exact absurd this (by decide)
  have hl : (L.take r ++ (k, v) :: L.drop r).length = L.length + 1 := by
    rw [List.length_append, List.length_take, List.length_cons, List.length_drop]
    omega
  have hl2 : (sl.take r ++ f0 :: sl.drop r).length = L.length + 1 := by
    rw [List.length_append, List.length_take, List.length_cons, List.length_drop]
    omega
  refine ⟨hl2.trans hl.symm, nodup_ins h2 hn, fun x hx => ?_, fun x hx => ?_, fun i hi => ?_⟩
  · rcases mem_ins.mp hx with z | z
    · rw [z]
      exact hf
    · exact h3 x z
  · rw [k3 x hx]
    by_cases q : x = f0
    · rw [if_pos q, if_pos (mem_ins.mpr (Or.inl q))]
    · rw [if_neg q, h4 x hx]
      by_cases q2 : x ∈ sl
      · rw [if_pos q2, if_pos (mem_ins.mpr (Or.inr q2))]
      · rw [if_neg q2, if_neg (fun z => (mem_ins.mp z).elim q q2)]
  · rw [hl] at hi
    dsimp only
    rw [getD_ins hr, getD_ins (show r ≤ sl.length by omega), k2 i (by omega)]
    have old : ∀ x, x < L.length → τ.1 114 (128 * s + sl.getD x 0) = Int32.ofNat (L.getD x ([], [])).1.length ∧ τ.1 115 (128 * s + sl.getD x 0) = Int32.ofNat (L.getD x ([], [])).2.length ∧ (∀ j, j < (L.getD x ([], [])).1.length → τ.1 116 (32 * (128 * s + sl.getD x 0) + j) = (L.getD x ([], [])).1.getD j 0) ∧ ∀ j, j < (L.getD x ([], [])).2.length → τ.1 117 (100 * (128 * s + sl.getD x 0) + j) = (L.getD x ([], [])).2.getD j 0 := by
      intro x hx
      obtain ⟨e1, e2, e3, e4, e5⟩ := h5 x hx
      have hne : sl.getD x 0 ≠ f0 := by
        intro z
        apply hn
        rw [← z, List.getD_eq_getElem?_getD, List.getElem?_eq_getElem (by omega)]
        exact List.getElem_mem _
      obtain ⟨w1, w2⟩ := hw x hx
      refine ⟨((k8 _ (by omega)).1).trans e2, ((k8 _ (by omega)).2).trans e3, fun j hj => ?_, fun j hj => ?_⟩
      · rw [k9 _ (by omega)]
        exact e4 j hj
      · rw [k10 _ (by omega)]
        exact e5 j hj
    by_cases q : i < r
    · rw [if_pos q, if_pos q, if_pos q]
      exact ⟨(h5 i (by omega)).1, old i (by omega)⟩
    · rw [if_neg q, if_neg q, if_neg q]
      by_cases q2 : i = r
      · rw [if_pos q2, if_pos q2, if_pos q2]
        exact ⟨rfl, k4, k6, k5, k7⟩
      · rw [if_neg q2, if_neg q2, if_neg q2, if_pos (by omega)]
        exact ⟨(h5 (i - 1) (by omega)).1, old (i - 1) (by omega)⟩
theorem kp229 {F : Nat} {σ σ0 : RS} {s r f0 at0 fr L : Nat} {k v : List Int32} (hF : 400 ≤ F) (hs7 : s < 7) (hf : f0 < 128) (hk : k.length ≤ 32) (hv : v.length ≤ 100) (ha : at0 + k.length ≤ 917504) (hfr : fr + v.length ≤ 917504) (hsk : ∀ j, j < k.length → rB (σ0.2 63) (at0 + j) = k.getD j 0) (hsv : ∀ j, j < v.length → rB (σ0.2 63) (fr + j) = v.getD j 0)
    (g0 : SLm s σ0 σ) (g1 : σ.1 113 s = Int32.ofNat (L + 1)) (g2 : ∀ i, i < 128 → σ.1 118 (128 * s + i) = if i < r then σ0.1 118 (128 * s + i) else if i = r then Int32.ofNat f0 else if i ≤ L then σ0.1 118 (128 * s + (i - 1)) else σ0.1 118 (128 * s + i))
    (g3 : ∀ i, i < 128 → σ.1 119 (128 * s + i) = if i = f0 then 1 else σ0.1 119 (128 * s + i)) (g4 : σ.1 114 (128 * s + f0) = Int32.ofNat k.length) (g8 : ∀ i, i ≠ 128 * s + f0 → σ.1 114 i = σ0.1 114 i ∧ σ.1 115 i = σ0.1 115 i) (g9 : ∀ i, σ.1 116 i = σ0.1 116 i ∧ σ.1 117 i = σ0.1 117 i) (g11 : ∀ f, 106 ≤ f → f ≤ 112 → ∀ i, σ.1 f i = σ0.1 f i) :
    ∀ n j (τ : RS), k.length + 1 ≤ j + n → j ≤ k.length → SLm s σ τ → (∀ f i, ¬ (f = 116 ∧ i / 32 = 128 * s + f0) → τ.1 f i = σ.1 f i) → (∀ i, i < j → τ.1 116 (32 * (128 * s + f0) + i) = k.getD i 0) →
      WP (m_keep_b229 F n τ (Int32.ofNat at0) (Int32.ofNat k.length) (Int32.ofNat fr) (Int32.ofNat v.length) (Int32.ofNat (128 * s + f0)) (Int32.ofNat j)) (fun p => p.1 = 1 ∧ kIns s r f0 L k v σ0 p.2) := by
  intro n
  induction n with
  | zero => intro j τ h1 h2; omega
  | succ n ih =>
    intro j τ h1 h2 h3 h4 h5
    unfold m_keep_b229
    refine WP_if (i_gei (by omega) (by omega)) (fun y => ?_) (fun y => ?_)
    · have : j = k.length := by omega
      subst this
      refine WP_mono (kp262 (s := s) (σ := τ) hF (by omega) (by omega) hv hfr (by rw [h3.2, g0.2]; exact hsv)) ?_
      rintro p ⟨p1, p2, p3, p4, p5⟩
      have e : ∀ f i, f ≠ 116 → f ≠ 115 → f ≠ 117 → p.2.1 f i = σ.1 f i := fun f i q1 q2 q3 => by
        rw [p3 f i (fun z => q3 z.1) (fun z => q2 z.1)]
        exact h4 f i (fun z => q1 z.1)
      refine ⟨p1, SLm_t g0 (SLm_t h3 p2), (e 113 s (by decide) (by decide) (by decide)).trans g1, fun i hi => (e 118 _ (by decide) (by decide) (by decide)).trans (g2 i hi), fun i hi => (e 119 _ (by decide) (by decide) (by decide)).trans (g3 i hi), (e 114 _ (by decide) (by decide) (by decide)).trans g4, fun j hj => ?_, p4, p5, fun i hi => ⟨(e 114 _ (by decide) (by decide) (by decide)).trans (g8 i hi).1, ?_⟩, fun i hi => ?_, fun i hi => ?_, fun f f1 f2 i => (e f i (by omega) (by omega) (by omega)).trans (g11 f f1 f2 i)⟩
      · rw [p3 116 _ (by omega) (by omega)]
        exact h5 j hj
      · rw [p3 115 i (by omega) (fun z => hi z.2), h4 115 i (by omega)]
        exact (g8 i hi).2
      · rw [p3 116 i (by omega) (by omega), h4 116 i (fun z => hi z.2)]
        exact (g9 i).1
      · rw [p3 117 i (fun z => hi z.2) (by omega), h4 117 i (by omega)]
        exact (g9 i).2
    · rw [i_ad]
      refine WP_eq (m_inLog_n (by omega)) ?_
      rw [h3.2, g0.2, hsk j (by omega)]
      have hb : (k.getD j 0).toInt8.toInt32 = k.getD j 0 := by
        rw [← hsk j (by omega)]
        exact i_b8
      rw [hb]
      refine WP_st (n := 32 * (128 * s + f0) + j) i_ma 28672 (by decide +kernel) (by omega) ?_
      rw [i_s]
      refine ih (j + 1) _ (by omega) (by omega) (SLm_I h3 (by unfold mOf; omega)) (fun f i hfi => ?_) (fun i hi => ?_)
      · rw [← h4 f i hfi]
        exact if_neg (fun z => hfi ⟨z.1, by omega⟩)
      · by_cases y2 : i = j
        · rw [y2, setI_e]
        · rw [setI_i (by omega)]
          exact h5 i (by omega)
theorem kp134 {F : Nat} {σ0 : RS} {s r f0 at0 fr L : Nat} {k v : List Int32} (hF : 400 ≤ F) (hs7 : s < 7) (hf : f0 < 128) (hL : L < 128) (hr : r ≤ L) (hk : k.length ≤ 32) (hv : v.length ≤ 100) (ha : at0 + k.length ≤ 917504) (hfr : fr + v.length ≤ 917504) (hsk : ∀ j, j < k.length → rB (σ0.2 63) (at0 + j) = k.getD j 0) (hsv : ∀ j, j < v.length → rB (σ0.2 63) (fr + j) = v.getD j 0) (h113 : σ0.1 113 s = Int32.ofNat L) :
    ∀ n x (τ : RS), x + 1 ≤ n + r → r ≤ x → x ≤ L → SLm s σ0 τ → (∀ f i, ¬ (f = 118 ∧ i / 128 = s) → τ.1 f i = σ0.1 f i) → (∀ i, i < 128 → τ.1 118 (128 * s + i) = if x < i ∧ i ≤ L then σ0.1 118 (128 * s + (i - 1)) else σ0.1 118 (128 * s + i)) →
      WP (m_keep_b134 F n τ (Int32.ofNat s) (Int32.ofNat at0) (Int32.ofNat k.length) (Int32.ofNat fr) (Int32.ofNat v.length) (Int32.ofNat r) (Int32.ofNat f0) (Int32.ofNat x)) (fun p => p.1 = 1 ∧ kIns s r f0 L k v σ0 p.2) := by
  intro n
  induction n with
  | zero => intro x τ h1 h2; omega
  | succ n ih =>
    intro x τ h1 h2 hxL h3 h4 h5
    unfold m_keep_b134
    refine WP_if (i_lei (by omega) (by omega)) (fun y => ?_) (fun y => ?_)
    · have : x = r := by omega
      subst this
      rw [show (128 : Int32) * Int32.ofNat s + Int32.ofNat x = Int32.ofNat (128 * s + x) from i_ma, show (128 : Int32) * Int32.ofNat s + Int32.ofNat f0 = Int32.ofNat (128 * s + f0) from i_ma]
      refine WP_st rfl 896 (by decide +kernel) (by omega) ?_
      refine WP_ld rfl 7 (by decide +kernel) hs7 ?_
      refine WP_st rfl 7 (by decide +kernel) hs7 ?_
      refine WP_st rfl 896 (by decide +kernel) (by omega) ?_
      refine WP_st rfl 896 (by decide +kernel) (by omega) ?_
      have e113 : (setI τ 118 (128 * s + x) (Int32.ofNat f0)).1 113 s = Int32.ofNat L := by
        rw [setI_f (by decide), h4 113 s (by omega)]
        exact h113
      rw [e113, i_s]
      have hS : SLm s σ0 (setI (setI (setI (setI τ 118 (128 * s + x) (Int32.ofNat f0)) 113 s (Int32.ofNat (L + 1))) 119 (128 * s + f0) (1 &&& 1)) 114 (128 * s + f0) (Int32.ofNat k.length)) := by
        refine SLm_I (SLm_I (SLm_I (SLm_I h3 ?_) ?_) ?_) ?_ <;> (unfold mOf; omega)
      refine kp229 (σ0 := σ0) hF hs7 hf hk hv ha hfr hsk hsv hS ?_ (fun i hi => ?_) (fun i hi => ?_) setI_e (fun i hi => ⟨?_, ?_⟩) (fun i => ⟨?_, ?_⟩) (fun f f1 f2 i => ?_) F 0 _ (by omega) (Nat.zero_le _) SLm_refl (fun _ _ _ => rfl) (fun i hi => absurd hi (Nat.not_lt_zero _))
      · rw [setI_f (by decide), setI_f (by decide), setI_e]
      · rw [setI_f (by decide), setI_f (by decide), setI_f (by decide)]
        by_cases q : i = x
        · rw [q, setI_e, if_neg (by omega), if_pos rfl]
        · rw [setI_i (by omega), h5 i hi]
          by_cases q2 : i < x
          · rw [if_neg (by omega), if_pos q2]
          · rw [if_neg q2, if_neg q]
            by_cases q3 : i ≤ L
            · rw [if_pos (by omega), if_pos q3]
            · rw [if_neg (by omega), if_neg q3]
      · rw [setI_f (by decide)]
        by_cases q : i = f0
        · rw [q, setI_e, if_pos rfl]
          rfl
        · rw [setI_i (by omega), setI_f (by decide), setI_f (by decide), if_neg q]
          exact h4 119 _ (by omega)
      · rw [setI_i hi, setI_f (by decide), setI_f (by decide), setI_f (by decide)]
        exact h4 114 _ (by omega)
      · rw [setI_f (by decide), setI_f (by decide), setI_f (by decide), setI_f (by decide)]
        exact h4 115 _ (by omega)
      · rw [setI_f (by decide), setI_f (by decide), setI_f (by decide), setI_f (by decide)]
        exact h4 116 _ (by omega)
      · rw [setI_f (by decide), setI_f (by decide), setI_f (by decide), setI_f (by decide)]
        exact h4 117 _ (by omega)
      · rw [setI_f (by omega), setI_f (by omega), setI_f (by omega), setI_f (by omega)]
        exact h4 f _ (by omega)
    · rw [show (128 : Int32) * Int32.ofNat s + Int32.ofNat x = Int32.ofNat (128 * s + x) from i_ma, i_pre (by omega)]
      refine WP_ld rfl 896 (by decide +kernel) (by omega) ?_
      refine WP_st rfl 896 (by decide +kernel) (by omega) ?_
      rw [i_add1m (by omega)]
      refine ih (x - 1) _ (by omega) (by omega) (by omega) (SLm_I h3 (by unfold mOf; omega)) (fun f i hfi => ?_) (fun i hi => ?_)
      · rw [← h4 f i hfi]
        exact if_neg (fun z => hfi ⟨z.1, by omega⟩)
      · by_cases q : i = x
        · rw [q, setI_e, if_pos (by omega), show 128 * s + x - 1 = 128 * s + (x - 1) by omega, h5 (x - 1) (by omega), if_neg (by omega)]
        · rw [setI_i (by omega), h5 i hi]
          by_cases q2 : x < i ∧ i ≤ L
          · rw [if_pos q2, if_pos (by omega)]
          · rw [if_neg q2, if_neg (by omega)]
theorem kp104 {F : Nat} {σ : RS} {s r at0 fr f1 : Nat} {M : AM} {sl : List Nat} {k v : List Int32} (hF : 400 ≤ F) (hs : s < 7) (h : RLk σ s M sl) (hL : M.2.length < 128) (hr : r ≤ M.2.length) (hk : k.length ≤ 32) (hv : v.length ≤ 100) (ha : at0 + k.length ≤ 917504) (hfr : fr + v.length ≤ 917504) (hsk : ∀ j, j < k.length → rB (σ.2 63) (at0 + j) = k.getD j 0) (hsv : ∀ j, j < v.length → rB (σ.2 63) (fr + j) = v.getD j 0) (hf1 : f1 < 128) (hf1' : σ.1 119 (128 * s + f1) = 0) :
    ∀ n x, 129 ≤ x + n → x ≤ f1 → WP (m_keep_b104 F n σ (Int32.ofNat s) (Int32.ofNat at0) (Int32.ofNat k.length) (Int32.ofNat fr) (Int32.ofNat v.length) (Int32.ofNat r) (Int32.ofNat x)) (fun p => p.1 = 1 ∧ ∃ f0, f0 < 128 ∧ σ.1 119 (128 * s + f0) = 0 ∧ kIns s r f0 M.2.length k v σ p.2) := by
  intro n
  induction n with
  | zero => intro x h1 h2; omega
  | succ n ih =>
    intro x h1 h2
    unfold m_keep_b104
    refine WP_ld (n := 128 * s + x) i_ma 896 (by decide +kernel) (by omega) ?_
    refine WP_if c0_eq (fun y => ?_) (fun y => ?_)
    · refine WP_ld rfl 7 (by decide +kernel) hs ?_
      rw [h.2.1]
      refine WP_mono (kp134 hF hs (by omega) hL hr hk hv ha hfr hsk hsv h.2.1 F M.2.length σ (by omega) hr (Nat.le_refl _) SLm_refl (fun _ _ _ => rfl) (fun i hi => by rw [if_neg (by omega)])) ?_
      exact fun p hp => ⟨hp.1, x, by omega, y, hp.2⟩
    · rw [i_s]
      refine ih (x + 1) (by omega) ?_
      by_cases z : x = f1
      · rw [z] at y
        exact absurd hf1' y
      · omega
