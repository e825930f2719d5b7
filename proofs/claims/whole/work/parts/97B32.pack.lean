/-! a machine is packed -/
def sEnc (x : AN) : List Int32 := a4 x.1 ++ a4 x.2.1 ++ a4 x.2.2.1 ++ a4 x.2.2.2.1 ++ [aLow8 (Int32.ofNat x.2.2.2.2.length >>> 8), aLow8 (Int32.ofNat x.2.2.2.2.length)] ++ x.2.2.2.2
def kEnc (e : List Int32 × List Int32) : List Int32 := [aLow8 (Int32.ofNat e.1.length), aLow8 (Int32.ofNat e.2.length >>> 8), aLow8 (Int32.ofNat e.2.length)] ++ e.1 ++ e.2
theorem aEnc_e {M : AM} : aEnc M = a4 (Int32.ofNat M.1.length) ++ M.1.flatMap sEnc ++ a4 (Int32.ofNat M.2.length) ++ M.2.flatMap kEnc := rfl
theorem sEnc_l {x : AN} : (sEnc x).length = 18 + x.2.2.2.2.length := by
  unfold sEnc
  simp [a4] <;> omega
theorem kEnc_l {e : List Int32 × List Int32} : (kEnc e).length = 3 + e.1.length + e.2.length := by
  unfold kEnc
  simp <;> omega
theorem sEncs_le : ∀ L : List AN, (∀ x ∈ L, x.2.2.2.2.length ≤ 112) → (L.flatMap sEnc).length ≤ 130 * L.length := by
  intro L
  induction L with
  | nil => intro _; exact Nat.le_refl _
  | cons x r ih =>
    intro h
    rw [List.flatMap_cons, List.length_append, sEnc_l, List.length_cons]
    have := ih (fun y hy => h y (List.mem_cons_of_mem _ hy))
    have := h x List.mem_cons_self
    omega
theorem kEncs_le : ∀ L : List (List Int32 × List Int32), (L.flatMap kEnc).length ≤ 3 * L.length + 16 * (L.map (fun e => aUnit e.1.length e.2.length)).sum := by
  intro L
  induction L with
  | nil => exact Nat.le_refl _
  | cons x r ih =>
    rw [List.flatMap_cons, List.length_append, kEnc_l, List.length_cons, List.map_cons, List.sum_cons]
    have : x.1.length + x.2.length ≤ 16 * aUnit x.1.length x.2.length := by unfold aUnit; omega
    omega
theorem aEnc_len {M : AM} (h : wfM M) : (aEnc M).length ≤ 13980 ∧ 8 ≤ (aEnc M).length := by
  obtain ⟨⟨w1, w0⟩, w2, w3, w4⟩ := h
  have h1 := sEncs_le M.1 (fun x hx => (w3 x hx).1)
  have h2 := kEncs_le M.2
  have h3 : (M.2.map (fun e => aUnit e.1.length e.2.length)).sum ≤ 700 := w0
  rw [aEnc_e, List.length_append, List.length_append, List.length_append]
  have e4 : ∀ v : Int32, (a4 v).length = 4 := fun _ => rfl
  rw [e4, e4]
  omega
/-- what was packed so far -/
def Pk (s : Nat) (σ τ : RS) (l : List Int32) : Prop := (∀ f, f ≠ 66 → f ≠ 146 → τ.1 f = σ.1 f) ∧ τ.2 = σ.2 ∧ (∀ i, i / 14000 ≠ s → τ.1 66 i = σ.1 66 i) ∧ τ.1 146 0 = Int32.ofNat l.length ∧ l.length ≤ 14000 ∧ ∀ i, i < l.length → τ.1 66 (14000 * s + i) = l.getD i 0
theorem Pk_1 {s : Nat} {σ τ : RS} {l : List Int32} {v : Int32} (hs : s < 7) (h : Pk s σ τ l) (hl : l.length < 14000) : ∃ τ', (rst τ 66 ((14000 : Int32) * Int32.ofNat s + τ.1 146 0) v = some (setI τ 66 (14000 * s + l.length) v)) ∧ τ' = setI (setI τ 66 (14000 * s + l.length) v) 146 0 ((setI τ 66 (14000 * s + l.length) v).1 146 0 + 1) ∧ Pk s σ τ' (l ++ [v]) := by
  obtain ⟨h1, h2, h3, h4, h5, h6⟩ := h
  have l66 : rlen 66 = 98000 := by decide +kernel
  refine ⟨_, ?_, rfl, fun f q1 q2 => ?_, h2, fun i hi => ?_, ?_, by rw [List.length_append]; simp; omega, fun i hi => ?_⟩
  · rw [h4, show (14000 : Int32) * Int32.ofNat s + Int32.ofNat l.length = Int32.ofNat (14000 * s + l.length) from i_ma]
    exact rst_n rfl (by omega)
  · rw [← h1 f q1 q2]
    funext i
    rw [setI_f q2, setI_f q1]
  · rw [setI_f (by decide), setI_i (by omega)]
    exact h3 i hi
  · rw [setI_e, setI_f (by decide), h4, List.length_append, i_s]
    rfl
  · rw [setI_f (by decide), getD_app]
    rw [List.length_append] at hi
    by_cases q : i < l.length
    · rw [if_pos q, setI_i (by omega)]
      exact h6 i q
    · have : i = l.length := by simp at hi; omega
      rw [if_neg q, if_pos this, this, setI_e]
def pkB (v : Int32) : Nat → List Int32
  | 0 => []
  | k + 1 => aLow8 (v >>> ((8 * Int32.ofNat k) &&& 31)) :: pkB v k
theorem pkB_4 {v : Int32} : pkB v 4 = a4 v := by
  show [aLow8 (v >>> 24), aLow8 (v >>> 16), aLow8 (v >>> 8), aLow8 (v >>> 0)] = _
  rw [Int32.shiftRight_zero]
  rfl
theorem pkB_2 {v : Int32} : pkB v 2 = [aLow8 (v >>> 8), aLow8 v] := by
  show [aLow8 (v >>> 8), aLow8 (v >>> 0)] = _
  rw [Int32.shiftRight_zero]
theorem pkB_1 {v : Int32} : pkB v 1 = [aLow8 v] := by
  show [aLow8 (v >>> 0)] = _
  rw [Int32.shiftRight_zero]
theorem m_pack_l {F : Nat} {σ : RS} {s : Nat} {v : Int32} (hs : s < 7) : ∀ k n (τ : RS) (l : List Int32), k ≤ 4 → k + 1 ≤ n → Pk s σ τ l → l.length + k ≤ 14000 → WP (m_pack_b5 F n τ (Int32.ofNat s) v (Int32.ofNat k - 1)) (fun τ' => Pk s σ τ' (l ++ pkB v k)) := by
  intro k
  induction k with
  | zero =>
    intro n τ l hk hn h hl
    obtain ⟨n, rfl⟩ : ∃ m, n = m + 1 := ⟨n - 1, by omega⟩
    unfold m_pack_b5
    refine WP_if c0_lt (fun _ => ?_) (fun y => absurd (show (Int32.ofNat 0 - 1 : Int32) < 0 by decide) y)
    exact WP_some (by rw [show l ++ pkB v 0 = l from List.append_nil l]; exact h)
  | succ k ih =>
    intro n τ l hk hn h hl
    obtain ⟨n, rfl⟩ : ∃ m, n = m + 1 := ⟨n - 1, by omega⟩
    unfold m_pack_b5
    rw [show Int32.ofNat (k + 1) - 1 = Int32.ofNat k from i_pre (by omega)]
    refine WP_if c0_lt (fun y => absurd y (i_nn (by omega))) (fun _ => ?_)
    obtain ⟨τ', e1, e2, h'⟩ := Pk_1 (v := ((v >>> ((8 * Int32.ofNat k) &&& 31)).toInt8.toInt32).toInt8.toInt32) hs h (by omega)
    refine WP_eq e1 ?_
    show WP (m_pack_b5 F n (setI _ 146 0 _) _ v _) _
    rw [← e2]
    have := ih n τ' _ (by omega) (by omega) h' (by rw [List.length_append]; simp; omega)
    rw [show Int32.ofNat k + (-1) = Int32.ofNat k - 1 from (Int32.sub_eq_add_neg _ _).symm]
    refine WP_mono this (fun τ2 h2 => ?_)
    rw [i_b8, List.append_assoc] at h2
    exact h2
theorem m_pack_n {F : Nat} {σ τ : RS} {s k : Nat} {v : Int32} {l : List Int32} (hF : 400 ≤ F) (hs : s < 7) (hk : k ≤ 4) (h : Pk s σ τ l) (hl : l.length + k ≤ 14000) : WP (m_pack F τ (Int32.ofNat s) v (Int32.ofNat k)) (fun τ' => Pk s σ τ' (l ++ pkB v k)) := by
  unfold m_pack m_pack_b0
  exact m_pack_l hs k F τ l hk (by omega) h hl
/-- bytes of a list, one after the other -/
theorem pk_bytes {F : Nat} {σ : RS} {s : Nat} {l0 w : List Int32} {Q : RS → Prop} (hs : s < 7) (hF : 400 ≤ F) (step : Nat → RS → Option RS) (hw : ∀ b ∈ w, aLow8 b = b) (hl : l0.length + w.length ≤ 14000)
    (hstep : ∀ j τ Q', j < w.length → Pk s σ τ (l0 ++ w.take j) → (∀ τ', Pk s σ τ' (l0 ++ w.take (j + 1)) → WP (step (j + 1) τ') Q') → WP (step j τ) Q') (hend : ∀ τ, Pk s σ τ (l0 ++ w) → WP (step w.length τ) Q) : ∀ d j τ, j + d = w.length → Pk s σ τ (l0 ++ w.take j) → WP (step j τ) Q := by
  intro d
  induction d with
  | zero =>
    intro j τ hj h
    have : j = w.length := by omega
    subst this
    rw [List.take_length] at h
    exact hend τ h
  | succ d ih =>
    intro j τ hj h
    exact hstep j τ Q (by omega) h (fun τ' h' => ih (j + 1) τ' (by omega) h')
theorem take_s {α : Type} {w : List α} {j : Nat} {d : α} (h : j < w.length) : w.take (j + 1) = w.take j ++ [w.getD j d] := by
  rw [List.take_add_one, List.getD_eq_getElem?_getD, List.getElem?_eq_getElem h]
  rfl
theorem pk99 {F : Nat} {K : RS → Int32 → Int32 → Option RS} {σ : RS} {s q : Nat} {l0 w : List Int32} {Q : RS → Prop} (hs : s < 7) (hq : q < 112) (hF : 400 ≤ F) (hw : ∀ b ∈ w, aLow8 b = b) (hwl : w.length ≤ 112) (hl : l0.length + w.length ≤ 14000) (h111 : σ.1 111 q = Int32.ofNat w.length) (h112 : ∀ j, j < w.length → σ.1 112 (112 * q + j) = w.getD j 0)
    (hK : ∀ τ, Pk s σ τ (l0 ++ w) → WP (K τ (Int32.ofNat s) (Int32.ofNat (q + 1))) Q) : ∀ n j τ, w.length + 1 ≤ j + n → j ≤ w.length → Pk s σ τ (l0 ++ w.take j) → WP (m_packAll_b99 F K n τ (Int32.ofNat s) (Int32.ofNat q) (Int32.ofNat j)) Q := by
  intro n
  induction n with
  | zero => intro j τ h1 h2; omega
  | succ n ih =>
    intro j τ h1 h2 h
    unfold m_packAll_b99
    refine WP_ld rfl 112 (by decide +kernel) hq ?_
    rw [h.1 111 (by decide) (by decide), h111]
    refine WP_if (i_gei (by omega) (by omega)) (fun y => ?_) (fun y => ?_)
    · have : j = w.length := by omega
      subst this
      rw [List.take_length] at h
      rw [i_s]
      exact hK τ h
    · refine WP_ld (n := 112 * q + j) i_ma 12544 (by decide +kernel) (by omega) ?_
      rw [h.1 112 (by decide) (by decide), h112 j (by omega)]
      refine WP_call (m_pack_n (k := 1) hF hs (by omega) h (by rw [List.length_append, List.length_take]; omega)) (fun τ' h' => ?_)
      rw [i_s]
      refine ih (j + 1) τ' (by omega) (by omega) ?_
      have hb : aLow8 (w.getD j 0) = w.getD j 0 := by
        rw [List.getD_eq_getElem?_getD, List.getElem?_eq_getElem (by omega)]
        exact hw _ (List.getElem_mem _)
      rw [pkB_1, hb, List.append_assoc, ← take_s (by omega)] at h'
      exact h'
theorem pk246 {F : Nat} {K : RS → Int32 → Int32 → Option RS} {σ : RS} {s q i : Nat} {l0 w : List Int32} {Q : RS → Prop} (hs : s < 7) (hq : q < 896) (hF : 400 ≤ F) (hw : ∀ b ∈ w, aLow8 b = b) (hwl : w.length ≤ 100) (hl : l0.length + w.length ≤ 14000) (h111 : σ.1 115 q = Int32.ofNat w.length) (h112 : ∀ j, j < w.length → σ.1 117 (100 * q + j) = w.getD j 0)
    (hK : ∀ τ, Pk s σ τ (l0 ++ w) → WP (K τ (Int32.ofNat s) (Int32.ofNat (i + 1))) Q) : ∀ n j τ, w.length + 1 ≤ j + n → j ≤ w.length → Pk s σ τ (l0 ++ w.take j) → WP (m_packAll_b246 F K n τ (Int32.ofNat s) (Int32.ofNat i) (Int32.ofNat q) (Int32.ofNat j)) Q := by
  intro n
  induction n with
  | zero => intro j τ h1 h2; omega
  | succ n ih =>
    intro j τ h1 h2 h
    unfold m_packAll_b246
    refine WP_ld rfl 896 (by decide +kernel) hq ?_
    rw [h.1 115 (by decide) (by decide), h111]
    refine WP_if (i_gei (by omega) (by omega)) (fun y => ?_) (fun y => ?_)
    · have : j = w.length := by omega
      subst this
      rw [List.take_length] at h
      rw [i_s]
      exact hK τ h
    · refine WP_ld (n := 100 * q + j) i_ma 89600 (by decide +kernel) (by omega) ?_
      rw [h.1 117 (by decide) (by decide), h112 j (by omega)]
      refine WP_call (m_pack_n (k := 1) hF hs (by omega) h (by rw [List.length_append, List.length_take]; omega)) (fun τ' h' => ?_)
      rw [i_s]
      refine ih (j + 1) τ' (by omega) (by omega) ?_
      have hb : aLow8 (w.getD j 0) = w.getD j 0 := by
        rw [List.getD_eq_getElem?_getD, List.getElem?_eq_getElem (by omega)]
        exact hw _ (List.getElem_mem _)
      rw [pkB_1, hb, List.append_assoc, ← take_s (by omega)] at h'
      exact h'
theorem pk208 {F : Nat} {K : RS → Int32 → Int32 → Option RS} {σ : RS} {s q i : Nat} {l0 w w2 : List Int32} {Q : RS → Prop} (hs : s < 7) (hq : q < 896) (hF : 400 ≤ F) (hw : ∀ b ∈ w, aLow8 b = b) (hwl : w.length ≤ 32) (hw2 : ∀ b ∈ w2, aLow8 b = b) (hwl2 : w2.length ≤ 100) (hl : l0.length + w.length + w2.length ≤ 14000) (h111 : σ.1 114 q = Int32.ofNat w.length) (h112 : ∀ j, j < w.length → σ.1 116 (32 * q + j) = w.getD j 0) (h115 : σ.1 115 q = Int32.ofNat w2.length) (h117 : ∀ j, j < w2.length → σ.1 117 (100 * q + j) = w2.getD j 0)
    (hK : ∀ τ, Pk s σ τ (l0 ++ w ++ w2) → WP (K τ (Int32.ofNat s) (Int32.ofNat (i + 1))) Q) : ∀ n j τ, w.length + 1 ≤ j + n → j ≤ w.length → Pk s σ τ (l0 ++ w.take j) → WP (m_packAll_b208 F K n τ (Int32.ofNat s) (Int32.ofNat i) (Int32.ofNat q) (Int32.ofNat j)) Q := by
  intro n
  induction n with
  | zero => intro j τ h1 h2; omega
  | succ n ih =>
    intro j τ h1 h2 h
    unfold m_packAll_b208
    refine WP_ld rfl 896 (by decide +kernel) hq ?_
    rw [h.1 114 (by decide) (by decide), h111]
    refine WP_if (i_gei (by omega) (by omega)) (fun y => ?_) (fun y => ?_)
    · have : j = w.length := by omega
      subst this
      rw [List.take_length] at h
      exact pk246 hs hq hF hw2 hwl2 (by rw [List.length_append]; exact hl) h115 h117 hK F 0 τ (by omega) (Nat.zero_le _) (by rw [List.take_zero, List.append_nil]; exact h)
    · refine WP_ld (n := 32 * q + j) i_ma 28672 (by decide +kernel) (by omega) ?_
      rw [h.1 116 (by decide) (by decide), h112 j (by omega)]
      refine WP_call (m_pack_n (k := 1) hF hs (by omega) h (by rw [List.length_append, List.length_take]; omega)) (fun τ' h' => ?_)
      rw [i_s]
      refine ih (j + 1) τ' (by omega) (by omega) ?_
      have hb : aLow8 (w.getD j 0) = w.getD j 0 := by
        rw [List.getD_eq_getElem?_getD, List.getElem?_eq_getElem (by omega)]
        exact hw _ (List.getElem_mem _)
      rw [pkB_1, hb, List.append_assoc, ← take_s (by omega)] at h'
      exact h'
theorem flat_take {α : Type} {L : List α} {f : α → List Int32} {i : Nat} {d : α} (h : i < L.length) : (L.take (i + 1)).flatMap f = (L.take i).flatMap f ++ f (L.getD i d) := by
  rw [take_s (d := d) h, List.flatMap_append, List.flatMap_cons, List.flatMap_nil, List.append_nil]
theorem flat_le {α : Type} {L : List α} {f : α → List Int32} {i : Nat} : ((L.take i).flatMap f).length ≤ (L.flatMap f).length := by
  conv => rhs; rw [← List.take_append_drop i L]
  rw [List.flatMap_append, List.length_append]
  omega
theorem m_packAll_n {F : Nat} {σ : RS} {s : Nat} {M : AM} (hF : 400 ≤ F) (hs : s < 7) (h : RMc σ s M) : WP (m_packAll F σ (Int32.ofNat s)) (fun τ' => ∃ τ, Pk s σ τ (aEnc M) ∧ τ' = setI τ 67 s (Int32.ofNat (aEnc M).length)) := by
  obtain ⟨sl, hlk⟩ := RMc_k h
  obtain ⟨w, h113, hK⟩ := hlk
  obtain ⟨el, _⟩ := aEnc_len w
  have hl16 := ses_len h
  have hl128 := w.2.1
  have eE := @aEnc_e M
  have elen : (aEnc M).length = 4 + (M.1.flatMap sEnc).length + 4 + (M.2.flatMap kEnc).length := by
    rw [eE, List.length_append, List.length_append, List.length_append]
    rfl
  unfold m_packAll m_packAll_b0
  have p0 : Pk s (setI σ 146 0 0) (setI σ 146 0 0) [] := ⟨fun _ _ _ => rfl, rfl, fun _ _ => rfl, setI_e, by simp, fun i hi => absurd hi (Nat.not_lt_zero _)⟩
  have pσ : Pk s σ (setI σ 146 0 0) [] := ⟨fun f _ q => by funext i; exact setI_f q, rfl, fun _ _ => rfl, setI_e, by simp, fun i hi => absurd hi (Nat.not_lt_zero _)⟩
  show WP ((rld (setI σ 146 0 0) 106 (Int32.ofNat s)).bind _) _
  refine WP_ld rfl 7 (by decide +kernel) hs ?_
  rw [show (setI σ 146 0 0).1 106 s = Int32.ofNat M.1.length from h.2.1]
  refine WP_call (m_pack_n (k := 4) hF hs (by omega) pσ (by simp)) (fun τ1 h1 => ?_)
  rw [pkB_4, List.nil_append] at h1
  -- the keys
  have keys : ∀ n i (τ : RS), 129 ≤ i + n → i ≤ M.2.length → Pk s σ τ (a4 (Int32.ofNat M.1.length) ++ M.1.flatMap sEnc ++ a4 (Int32.ofNat M.2.length) ++ (M.2.take i).flatMap kEnc) → WP (m_packAll_b152 F n τ (Int32.ofNat s) (Int32.ofNat i)) (fun τ' => ∃ τ, Pk s σ τ (aEnc M) ∧ τ' = setI τ 67 s (Int32.ofNat (aEnc M).length)) := by
    intro n
    induction n with
    | zero => intro i τ g1 g2; omega
    | succ n ih =>
      intro i τ g1 g2 g
      unfold m_packAll_b152
      refine WP_ld rfl 7 (by decide +kernel) hs ?_
      rw [g.1 113 (by decide) (by decide), h113]
      refine WP_if (i_gei (by omega) (by omega)) (fun y => ?_) (fun y => ?_)
      · have : i = M.2.length := by omega
        subst this
        rw [List.take_length, ← eE] at g
        refine WP_st rfl 7 (by decide +kernel) hs ?_
        rw [g.2.2.2.1]
        exact WP_some ⟨τ, g, rfl⟩
      · have hi : i < M.2.length := by omega
        obtain ⟨e1, e2, e3, e4, e5⟩ := hK.2.2.2.2 i hi
        have hsl := sl_lt hK hi
        obtain ⟨u1, u2, u3, u4⟩ := wf_get w hi
        have hfl := flat_take (f := kEnc) (d := (([], []) : List Int32 × List Int32)) hi
        have hfle := @flat_le _ M.2 kEnc (i + 1)
        rw [hfl, List.length_append, kEnc_l] at hfle
        have hlen : (a4 (Int32.ofNat M.1.length) ++ M.1.flatMap sEnc ++ a4 (Int32.ofNat M.2.length) ++ (M.2.take i).flatMap kEnc).length = 4 + (M.1.flatMap sEnc).length + 4 + ((M.2.take i).flatMap kEnc).length := by
          rw [List.length_append, List.length_append, List.length_append]
          rfl
        refine WP_ld (n := 128 * s + i) i_ma 896 (by decide +kernel) (by omega) ?_
        rw [g.1 118 (by decide) (by decide), e1, show (128 : Int32) * Int32.ofNat s + Int32.ofNat (sl.getD i 0) = Int32.ofNat (128 * s + sl.getD i 0) from i_ma]
        refine WP_ld rfl 896 (by decide +kernel) (by omega) ?_
        rw [g.1 114 (by decide) (by decide), e2]
        refine WP_call (m_pack_n (k := 1) hF hs (by omega) g (by omega)) (fun τ2 g2' => ?_)
        refine WP_ld rfl 896 (by decide +kernel) (by omega) ?_
        rw [g2'.1 115 (by decide) (by decide), e3]
        refine WP_call (m_pack_n (k := 2) hF hs (by omega) g2' (by rw [List.length_append, hlen, pkB_1]; show _ + 1 + 2 ≤ _; omega)) (fun τ3 g3 => ?_)
        rw [pkB_1, pkB_2] at g3
        refine pk208 (w := (M.2.getD i ([], [])).1) (w2 := (M.2.getD i ([], [])).2) hs (by omega) hF u3 u1 u4 u2 ?_ e2 e4 e3 e5 (fun τ4 g4 => ?_) F 0 τ3 (by omega) (Nat.zero_le _) (by rw [List.take_zero, List.append_nil]; exact g3)
        · rw [List.length_append, List.length_append, hlen]
          show _ + 1 + 2 + _ + _ ≤ _
          omega
        · refine ih (i + 1) τ4 (by omega) (by omega) ?_
          rw [hfl]
          have : kEnc (M.2.getD i ([], [])) = [aLow8 (Int32.ofNat (M.2.getD i ([], [])).1.length)] ++ [aLow8 (Int32.ofNat (M.2.getD i ([], [])).2.length >>> 8), aLow8 (Int32.ofNat (M.2.getD i ([], [])).2.length)] ++ (M.2.getD i ([], [])).1 ++ (M.2.getD i ([], [])).2 := rfl
          rw [this]
          simp only [List.append_assoc] at g4 ⊢
          exact g4
  -- the sessions
  have sess : ∀ n i (τ : RS), 18 ≤ i + n → i ≤ M.1.length → Pk s σ τ (a4 (Int32.ofNat M.1.length) ++ (M.1.take i).flatMap sEnc) → WP (m_packAll_b22 F n τ (Int32.ofNat s) (Int32.ofNat (16 * s + i))) (fun τ' => ∃ τ, Pk s σ τ (aEnc M) ∧ τ' = setI τ 67 s (Int32.ofNat (aEnc M).length)) := by
    intro n
    induction n with
    | zero => intro i τ g1 g2; omega
    | succ n ih =>
      intro i τ g1 g2 g
      unfold m_packAll_b22
      refine WP_ld rfl 7 (by decide +kernel) hs ?_
      rw [g.1 106 (by decide) (by decide), h.2.1, show (16 : Int32) * Int32.ofNat s + Int32.ofNat M.1.length = Int32.ofNat (16 * s + M.1.length) from i_ma]
      refine WP_if (p := M.1.length ≤ i) (by rw [i_gei (by omega) (by omega)]; omega) (fun y => ?_) (fun y => ?_)
      · have : i = M.1.length := by omega
        subst this
        rw [List.take_length] at g
        refine WP_ld rfl 7 (by decide +kernel) hs ?_
        rw [g.1 113 (by decide) (by decide), h113]
        refine WP_call (m_pack_n (k := 4) hF hs (by omega) g (by rw [List.length_append]; show 4 + _ + 4 ≤ _; omega)) (fun τ2 g2' => ?_)
        rw [pkB_4] at g2'
        refine keys F 0 τ2 (by omega) (Nat.zero_le _) ?_
        rw [List.take_zero, List.flatMap_nil, List.append_nil]
        exact g2'
      · have hi : i < M.1.length := by omega
        obtain ⟨y1, y2, y3, y4, y5, y6⟩ := h.2.2.2.1 i hi
        obtain ⟨u1, u2⟩ := ses_get w hi
        have hfl := flat_take (f := sEnc) (d := aN0) hi
        have hfle := @flat_le _ M.1 sEnc (i + 1)
        rw [hfl, List.length_append, sEnc_l] at hfle
        have hd : M.1.getD i (0, 0, 0, 0, []) = M.1.getD i aN0 := rfl
        rw [hd] at y1 y2 y3 y4 y5 y6
        generalize hX : M.1.getD i aN0 = X at y1 y2 y3 y4 y5 y6 u1 u2 hfl hfle
        have hlen : (a4 (Int32.ofNat M.1.length) ++ (M.1.take i).flatMap sEnc).length = 4 + ((M.1.take i).flatMap sEnc).length := by
          rw [List.length_append]
          rfl
        refine WP_ld rfl 112 (by decide +kernel) (by omega) ?_
        rw [g.1 107 (by decide) (by decide), y1]
        refine WP_call (m_pack_n (k := 4) hF hs (by omega) g (by omega)) (fun τ2 g2' => ?_)
        refine WP_ld rfl 112 (by decide +kernel) (by omega) ?_
        rw [g2'.1 108 (by decide) (by decide), y2]
        rw [pkB_4] at g2'
        refine WP_call (m_pack_n (k := 4) hF hs (by omega) g2' (by rw [List.length_append, hlen]; show _ + 4 + 4 ≤ _; omega)) (fun τ3 g3 => ?_)
        refine WP_ld rfl 112 (by decide +kernel) (by omega) ?_
        rw [g3.1 109 (by decide) (by decide), y3]
        rw [pkB_4] at g3
        refine WP_call (m_pack_n (k := 4) hF hs (by omega) g3 (by rw [List.length_append, List.length_append, hlen]; show _ + 4 + 4 + 4 ≤ _; omega)) (fun τ4 g4 => ?_)
        refine WP_ld rfl 112 (by decide +kernel) (by omega) ?_
        rw [g4.1 110 (by decide) (by decide), y4]
        rw [pkB_4] at g4
        refine WP_call (m_pack_n (k := 4) hF hs (by omega) g4 (by rw [List.length_append, List.length_append, List.length_append, hlen]; show _ + 4 + 4 + 4 + 4 ≤ _; omega)) (fun τ5 g5 => ?_)
        refine WP_ld rfl 112 (by decide +kernel) (by omega) ?_
        rw [g5.1 111 (by decide) (by decide), y5]
        rw [pkB_4] at g5
        refine WP_call (m_pack_n (k := 2) hF hs (by omega) g5 (by rw [List.length_append, List.length_append, List.length_append, List.length_append, hlen]; show _ + 4 + 4 + 4 + 4 + 2 ≤ _; omega)) (fun τ6 g6 => ?_)
        rw [pkB_2] at g6
        refine pk99 (w := X.2.2.2.2) hs (by omega) hF u2 u1 ?_ y5 y6 (fun τ7 g7 => ?_) F 0 τ6 (by omega) (Nat.zero_le _) (by rw [List.take_zero, List.append_nil]; exact g6)
        · rw [List.length_append, List.length_append, List.length_append, List.length_append, List.length_append, hlen]
          show _ + 4 + 4 + 4 + 4 + 2 + _ ≤ _
          omega
        · rw [show 16 * s + i + 1 = 16 * s + (i + 1) by omega]
          refine ih (i + 1) τ7 (by omega) (by omega) ?_
          rw [hfl]
          have : sEnc X = a4 X.1 ++ a4 X.2.1 ++ a4 X.2.2.1 ++ a4 X.2.2.2.1 ++ [aLow8 (Int32.ofNat X.2.2.2.2.length >>> 8), aLow8 (Int32.ofNat X.2.2.2.2.length)] ++ X.2.2.2.2 := rfl
          rw [this]
          simp only [List.append_assoc] at g7 ⊢
          exact g7
  rw [show (16 : Int32) * Int32.ofNat s = Int32.ofNat (16 * s + 0) from i_mc]
  refine sess F 0 τ1 (by omega) (Nat.zero_le _) ?_
  rw [List.take_zero, List.flatMap_nil, List.append_nil]
  exact h1
