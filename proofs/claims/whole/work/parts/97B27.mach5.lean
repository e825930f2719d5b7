/-! a key is forgotten; answers are built -/
theorem getD_del {α : Type} {l : List α} {r i : Nat} {d : α} : (l.eraseIdx r).getD i d = if i < r then l.getD i d else l.getD (i + 1) d := by
  rw [List.getD_eq_getElem?_getD, List.getElem?_eraseIdx]
  by_cases q : i < r
  · rw [if_pos q, if_pos q, List.getD_eq_getElem?_getD]
  · rw [if_neg q, if_neg q, List.getD_eq_getElem?_getD]
theorem fg43 {F : Nat} {σ0 : RS} {s r q L : Nat} (hs : s < 7) (hq : q < 896) (hq2 : q / 128 = s) (hr : r < L) (hL : L ≤ 128) : ∀ n x (τ : RS), L ≤ x + n → r ≤ x → x ≤ L - 1 → SLm s σ0 τ → τ.1 113 s = Int32.ofNat (L - 1) → (∀ f i, ¬ (f = 118 ∧ i / 128 = s) → ¬ (f = 113 ∧ i = s) → τ.1 f i = σ0.1 f i) → (∀ i, i < 128 → τ.1 118 (128 * s + i) = if r ≤ i ∧ i < x then σ0.1 118 (128 * s + (i + 1)) else σ0.1 118 (128 * s + i)) →
    WP (m_forget_b43 F n τ (Int32.ofNat s) (Int32.ofNat q) (Int32.ofNat x)) (fun τ' => SLm s σ0 τ' ∧ τ'.1 113 s = Int32.ofNat (L - 1) ∧ τ'.1 119 q = 0 ∧ (∀ f i, ¬ (f = 118 ∧ i / 128 = s) → ¬ (f = 113 ∧ i = s) → ¬ (f = 119 ∧ i = q) → τ'.1 f i = σ0.1 f i) ∧ ∀ i, i < 128 → τ'.1 118 (128 * s + i) = if r ≤ i ∧ i < L - 1 then σ0.1 118 (128 * s + (i + 1)) else σ0.1 118 (128 * s + i)) := by
  intro n
  induction n with
  | zero => intro x τ h1 h2 h3; omega
  | succ n ih =>
    intro x τ h1 h2 h3 g1 g2 g3 g4
    unfold m_forget_b43
    refine WP_ld rfl 7 (by decide +kernel) hs ?_
    rw [g2]
    refine WP_if (i_gei (by omega) (by omega)) (fun y => ?_) (fun y => ?_)
    · have : x = L - 1 := by omega
      subst this
      refine WP_st rfl 896 (by decide +kernel) hq ?_
      refine WP_some ⟨SLm_I g1 (by unfold mOf; omega), (setI_f (by decide)).trans g2, setI_e, fun f i q1 q2 q3 => ?_, fun i hi => ?_⟩
      · rw [← g3 f i q1 q2]
        exact if_neg q3
      · rw [setI_f (by decide)]
        exact g4 i hi
    · rw [show (128 : Int32) * Int32.ofNat s + Int32.ofNat x = Int32.ofNat (128 * s + x) from i_ma, i_s]
      refine WP_ld rfl 896 (by decide +kernel) (by omega) ?_
      refine WP_st rfl 896 (by decide +kernel) (by omega) ?_
      rw [i_s]
      refine ih (x + 1) _ (by omega) (by omega) (by omega) (SLm_I g1 (by unfold mOf; omega)) ((setI_f (by decide)).trans g2) (fun f i q1 q2 => ?_) (fun i hi => ?_)
      · rw [← g3 f i q1 q2]
        exact if_neg (fun z => q1 ⟨z.1, by omega⟩)
      · by_cases z : i = x
        · rw [z, setI_e, if_pos (by omega), show 128 * s + x + 1 = 128 * s + (x + 1) by omega, g4 (x + 1) (by omega), if_neg (by omega)]
        · rw [setI_i (by omega), g4 i hi]
          by_cases z2 : r ≤ i ∧ i < x
          · rw [if_pos z2, if_pos (by omega)]
          · rw [if_neg z2, if_neg (by omega)]
theorem m_forget_n {F : Nat} {σ : RS} {s r : Nat} {M : AM} {sl : List Nat} (hF : 400 ≤ F) (hs : s < 7) (h : RMc σ s M) (hlk : RLk σ s M sl) (hr : r < M.2.length) : WP (m_forget F σ (Int32.ofNat s) (Int32.ofNat (128 * s + sl.getD r 0))) (fun τ => SLm s σ τ ∧ RMc τ s (M.1, M.2.eraseIdx r)) := by
  obtain ⟨w, h113, hK⟩ := hlk
  have hL := w.2.1
  have hsl := sl_lt hK hr
  have hlen : (M.2.eraseIdx r).length = M.2.length - 1 := List.length_eraseIdx_of_lt hr
  have fin : ∀ τ', SLm s σ τ' → τ'.1 113 s = Int32.ofNat (M.2.length - 1) → τ'.1 119 (128 * s + sl.getD r 0) = 0 → (∀ f i, ¬ (f = 118 ∧ i / 128 = s) → ¬ (f = 113 ∧ i = s) → ¬ (f = 119 ∧ i = 128 * s + sl.getD r 0) → τ'.1 f i = σ.1 f i) → (∀ i, i < 128 → τ'.1 118 (128 * s + i) = if r ≤ i ∧ i < M.2.length - 1 then σ.1 118 (128 * s + (i + 1)) else σ.1 118 (128 * s + i)) → RMc τ' s (M.1, M.2.eraseIdx r) := by
    intro τ' t1 t2 t3 t4 t5
    obtain ⟨k1, k2, k3, k4, k5⟩ := hK
    refine RMc_mk h (fun f f1 f2 i => t4 f i (by omega) (by omega) (by omega)) (by rw [t2]; show _ = Int32.ofNat (M.2.eraseIdx r).length; rw [hlen]) ⟨⟨w.1.1, by have := @un_del M r; have := w.1.2; omega⟩, by show (M.2.eraseIdx r).length ≤ 128; omega, w.2.2.1, fun e he => w.2.2.2 e (List.mem_of_mem_eraseIdx he)⟩ rfl (sl := sl.eraseIdx r) ⟨?_, ?_, fun k hk => k3 k (List.mem_of_mem_eraseIdx hk), fun k hk => ?_, fun i hi => ?_⟩
    · rw [List.length_eraseIdx_of_lt (by omega)]
      show _ = (M.2.eraseIdx r).length
      rw [hlen, k1]
    · exact List.Nodup.sublist (List.eraseIdx_sublist _ _) k2
    · have hmem : k ∈ sl.eraseIdx r ↔ k ∈ sl ∧ k ≠ sl.getD r 0 := by
        constructor
        · intro hk'
          refine ⟨List.mem_of_mem_eraseIdx hk', fun z => ?_⟩
          obtain ⟨j, hj, ej⟩ := List.getElem_of_mem hk'
          have e2 : (sl.eraseIdx r).getD j 0 = k := by
            rw [List.getD_eq_getElem?_getD, List.getElem?_eq_getElem hj]
            exact ej
          rw [getD_del] at e2
          rw [List.length_eraseIdx_of_lt (by omega)] at hj
          split at e2
          · have := nodup_inj k2 (by omega) (by omega) (e2.trans z)
            omega
          · have := nodup_inj k2 (by omega) (by omega) (e2.trans z)
            omega
        · rintro ⟨hk', z⟩
          obtain ⟨j, hj, ej⟩ := List.getElem_of_mem hk'
          have e2 : sl.getD j 0 = k := by
            rw [List.getD_eq_getElem?_getD, List.getElem?_eq_getElem hj]
            exact ej
          have hjr : j ≠ r := fun y => z (by rw [← e2, y])
          by_cases y : j < r
          · have : (sl.eraseIdx r).getD j 0 = k := by rw [getD_del, if_pos y, e2]
            rw [← this, List.getD_eq_getElem?_getD, List.getElem?_eq_getElem (by rw [List.length_eraseIdx_of_lt (by omega)]; omega)]
            exact List.getElem_mem _
          · have : (sl.eraseIdx r).getD (j - 1) 0 = k := by rw [getD_del, if_neg (by omega), show j - 1 + 1 = j by omega, e2]
            rw [← this, List.getD_eq_getElem?_getD, List.getElem?_eq_getElem (by rw [List.length_eraseIdx_of_lt (by omega)]; omega)]
            exact List.getElem_mem _
      by_cases z : k = sl.getD r 0
      · rw [z, t3, if_neg (fun y => (hmem.mp (z ▸ y)).2 z)]
      · rw [t4 119 _ (by omega) (by omega) (by omega), k4 k hk]
        by_cases y : k ∈ sl
        · rw [if_pos y, if_pos (hmem.mpr ⟨y, z⟩)]
        · rw [if_neg y, if_neg (fun x => y (hmem.mp x).1)]
    · have hi : i < (M.2.eraseIdx r).length := hi
      rw [hlen] at hi
      have old : ∀ x, x < M.2.length → x ≠ r → τ'.1 114 (128 * s + sl.getD x 0) = Int32.ofNat (M.2.getD x ([], [])).1.length ∧ τ'.1 115 (128 * s + sl.getD x 0) = Int32.ofNat (M.2.getD x ([], [])).2.length ∧ (∀ j, j < (M.2.getD x ([], [])).1.length → τ'.1 116 (32 * (128 * s + sl.getD x 0) + j) = (M.2.getD x ([], [])).1.getD j 0) ∧ ∀ j, j < (M.2.getD x ([], [])).2.length → τ'.1 117 (100 * (128 * s + sl.getD x 0) + j) = (M.2.getD x ([], [])).2.getD j 0 := by
        intro x hx _
        obtain ⟨e1, e2, e3, e4, e5⟩ := k5 x hx
        refine ⟨(t4 114 _ (by omega) (by omega) (by omega)).trans e2, (t4 115 _ (by omega) (by omega) (by omega)).trans e3, fun j hj => (t4 116 _ (by omega) (by omega) (by omega)).trans (e4 j hj), fun j hj => (t4 117 _ (by omega) (by omega) (by omega)).trans (e5 j hj)⟩
      show let e := (M.2.eraseIdx r).getD i ([], [])
        let q := 128 * s + (sl.eraseIdx r).getD i 0
        _
      dsimp only
      rw [getD_del, getD_del, t5 i (by omega)]
      by_cases z : i < r
      · rw [if_neg (by omega), if_pos z, if_pos z]
        exact ⟨(k5 i (by omega)).1, old i (by omega) (by omega)⟩
      · rw [if_pos (by omega), if_neg z, if_neg z]
        exact ⟨(k5 (i + 1) (by omega)).1, old (i + 1) (by omega) (by omega)⟩
  have find : ∀ n x, 129 ≤ x + n → x ≤ r → WP (m_forget_b2 F n σ (Int32.ofNat s) (Int32.ofNat (128 * s + sl.getD r 0)) (Int32.ofNat x)) (fun τ => SLm s σ τ ∧ RMc τ s (M.1, M.2.eraseIdx r)) := by
    intro n
    induction n with
    | zero => intro x h1 h2; omega
    | succ n ih =>
      intro x h1 h2
      unfold m_forget_b2
      have hx : x < M.2.length := by omega
      have hslx := sl_lt hK hx
      refine WP_ld (n := 128 * s + x) i_ma 896 (by decide +kernel) (by omega) ?_
      rw [(hK.2.2.2.2 x hx).1, show (128 : Int32) * Int32.ofNat s = Int32.ofNat (128 * s) from i_mc, i_subn (by omega), show 128 * s + sl.getD r 0 - 128 * s = sl.getD r 0 by omega]
      refine WP_if (c2_eq.trans (i_eqi (by omega) (by omega))) (fun y => ?_) (fun y => ?_)
      · have hxr : x = r := nodup_inj hK.2.1 (by rw [hK.1]; exact hx) (by rw [hK.1]; exact hr) y
        subst hxr
        refine WP_ld rfl 7 (by decide +kernel) hs ?_
        refine WP_st rfl 7 (by decide +kernel) hs ?_
        rw [h113, i_pre (by omega)]
        refine WP_mono (fg43 (σ0 := σ) (r := x) (L := M.2.length) hs (by omega) (by omega) hr hL F x _ (by omega) (Nat.le_refl _) (by omega) (SLm_I SLm_refl (by unfold mOf; omega)) setI_e (fun f i q1 q2 => if_neg q2) (fun i hi => by rw [if_neg (by omega), setI_f (by decide)])) ?_
        rintro τ' ⟨t1, t2, t3, t4, t5⟩
        exact ⟨t1, fin τ' t1 t2 t3 t4 t5⟩
      · rw [i_s]
        refine ih (x + 1) (by omega) ?_
        by_cases z : x = r
        · rw [z] at y
          exact absurd rfl y
        · omega
  exact find F 0 (by omega) (Nat.zero_le _)
/-! answers -/
/-- an answer that is being built -/
def An (σ : RS) (l : List Int32) : Prop := σ.1 122 0 = Int32.ofNat l.length ∧ l.length ≤ 150 ∧ ∀ i, i < l.length → σ.1 121 i = l.getD i 0
/-- only the answer has changed -/
def SLa (σ σ' : RS) : Prop := (∀ f, f ≠ 121 → f ≠ 122 → σ'.1 f = σ.1 f) ∧ σ'.2 = σ.2
theorem SLa_refl {σ : RS} : SLa σ σ := ⟨fun _ _ _ => rfl, rfl⟩
theorem SLa_t {σ τ τ' : RS} (h : SLa σ τ) (h' : SLa τ τ') : SLa σ τ' := ⟨fun f q1 q2 => (h'.1 f q1 q2).trans (h.1 f q1 q2), h'.2.trans h.2⟩
theorem SLa_I {σ τ : RS} {f i : Nat} {v : Int32} (h : SLa σ τ) (q : f = 121 ∨ f = 122) : SLa σ (setI τ f i v) := by
  refine ⟨fun g q1 q2 => ?_, h.2⟩
  rw [← h.1 g q1 q2]
  funext j
  exact setI_f (by omega)
theorem SLa_Fr {σ σ' : RS} (h : SLa σ σ') : Fr [121, 122] [] σ σ' := ⟨fun f hf => h.1 f (by simp at hf; omega) (by simp at hf; omega), fun f _ => by rw [h.2]⟩
theorem RMc_a {σ τ : RS} {s : Nat} {M : AM} (h : SLa σ τ) (z : RMc σ s M) : RMc τ s M := RMc_fr (SLa_Fr h) (by decide) z
theorem RLk_a {σ τ : RS} {s : Nat} {M : AM} {sl : List Nat} (h : SLa σ τ) (z : RLk σ s M sl) : RLk τ s M sl := by
  obtain ⟨z1, z2, z3⟩ := z
  unfold RKs at z3
  refine ⟨z1, by rw [h.1 113 (by decide) (by decide)]; exact z2, ?_⟩
  unfold RKs
  rw [h.1 114 (by decide) (by decide), h.1 115 (by decide) (by decide), h.1 116 (by decide) (by decide), h.1 117 (by decide) (by decide), h.1 118 (by decide) (by decide), h.1 119 (by decide) (by decide)]
  exact z3
theorem An_say {σ : RS} {l : List Int32} {v : Int32} (h : An σ l) (hl : l.length < 150) : WP (m_say σ v) (fun τ => SLa σ τ ∧ An τ (l ++ [aLow8 v])) := by
  obtain ⟨h1, h2, h3⟩ := h
  unfold m_say
  rw [h1]
  refine WP_st rfl 160 (by decide +kernel) (by omega) ?_
  have e : (setI σ 121 l.length (v.toInt8.toInt32.toInt8.toInt32)).1 122 0 = Int32.ofNat l.length := by
    rw [setI_f (by decide)]
    exact h1
  show WP (some (setI _ 122 0 ((setI σ 121 l.length (v.toInt8.toInt32.toInt8.toInt32)).1 122 0 + 1))) _
  rw [e, i_s]
  refine WP_some ⟨SLa_I (SLa_I SLa_refl (Or.inl rfl)) (Or.inr rfl), ?_, by rw [List.length_append]; simp; omega, fun i hi => ?_⟩
  · rw [setI_e, List.length_append]
    rfl
  · rw [setI_f (by decide), getD_app]
    rw [List.length_append] at hi
    by_cases q : i < l.length
    · rw [if_pos q, setI_i (by omega)]
      exact h3 i q
    · have : i = l.length := by simp at hi; omega
      rw [if_neg q, if_pos this, this, setI_e, i_b8]
      rfl
theorem An_tell {F : Nat} {σ : RS} {q : Nat} {l v : List Int32} (hF : 400 ≤ F) (h : An σ l) (hq : q < 896) (e1 : σ.1 115 q = Int32.ofNat v.length) (e2 : ∀ j, j < v.length → σ.1 117 (100 * q + j) = v.getD j 0) (bv : ∀ b ∈ v, aLow8 b = b) (hv : v.length ≤ 100) (hl : l.length + v.length ≤ 150) : WP (m_tellValue F σ (Int32.ofNat q)) (fun τ => SLa σ τ ∧ An τ (l ++ v)) := by
  obtain ⟨h1, h2, h3⟩ := h
  have key : ∀ n j (τ : RS), v.length + 1 ≤ j + n → j ≤ v.length → SLa σ τ → τ.1 122 0 = Int32.ofNat l.length → (∀ i, i < l.length → τ.1 121 i = l.getD i 0) → (∀ i, i < j → τ.1 121 (l.length + i) = v.getD i 0) → WP (m_tellValue_b2 F n τ (Int32.ofNat q) (Int32.ofNat j)) (fun τ => SLa σ τ ∧ An τ (l ++ v)) := by
    intro n
    induction n with
    | zero => intro j τ g1 g2; omega
    | succ n ih =>
      intro j τ g1 g2 g3 g4 g5 g6
      unfold m_tellValue_b2
      have e1' : τ.1 115 q = Int32.ofNat v.length := by rw [g3.1 115 (by decide) (by decide)]; exact e1
      refine WP_ld rfl 896 (by decide +kernel) hq ?_
      rw [e1']
      refine WP_if (i_gei (by omega) (by omega)) (fun y => ?_) (fun y => ?_)
      · have : j = v.length := by omega
        subst this
        refine WP_ld rfl 896 (by decide +kernel) hq ?_
        rw [e1']
        show WP (some (setI τ 122 0 (τ.1 122 0 + Int32.ofNat v.length))) _
        rw [g4, i_ad]
        refine WP_some ⟨SLa_I g3 (Or.inr rfl), by rw [setI_e, List.length_append], by rw [List.length_append]; exact hl, fun i hi => ?_⟩
        rw [setI_f (by decide)]
        rw [List.length_append] at hi
        rw [List.getD_eq_getElem?_getD]
        by_cases z : i < l.length
        · rw [List.getElem?_append_left z, ← List.getD_eq_getElem?_getD]
          exact g5 i z
        · rw [List.getElem?_append_right (by omega), ← List.getD_eq_getElem?_getD]
          have := g6 (i - l.length) (by omega)
          rw [show l.length + (i - l.length) = i by omega] at this
          exact this
      · refine WP_ld (n := 100 * q + j) i_ma 89600 (by decide +kernel) (by omega) ?_
        rw [g3.1 117 (by decide) (by decide), e2 j (by omega), g4, i_ad]
        refine WP_st rfl 160 (by decide +kernel) (by omega) ?_
        rw [i_s]
        have hb : (v.getD j 0).toInt8.toInt32 = v.getD j 0 := by
          rw [List.getD_eq_getElem?_getD, List.getElem?_eq_getElem (by omega)]
          exact bv _ (List.getElem_mem _)
        rw [hb]
        refine ih (j + 1) _ (by omega) (by omega) (SLa_I g3 (Or.inl rfl)) ((setI_f (by decide)).trans g4) (fun i hi => ?_) (fun i hi => ?_)
        · rw [setI_i (by omega)]
          exact g5 i hi
        · by_cases z : i = j
          · rw [z, setI_e]
          · rw [setI_i (by omega)]
            exact g6 i (by omega)
  exact key F 0 σ (by omega) (Nat.zero_le _) SLa_refl h1 h3 (fun i hi => absurd hi (Nat.not_lt_zero _))
