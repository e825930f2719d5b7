/-! both snapshots are looked at -/
theorem shot_len {K : List AK} {τ : RS} {k g : Nat} {H : AF} (h2 : 2 ≤ g) (h4 : g < 4) (hR : RFl K τ k g H) (h1 : H.1 0 = 1) (hw : wfM H.2.2) : H.1 1 = Int32.ofNat (20 + (aEnc H.2.2).length) ∧ τ.1 42 k = Int32.ofNat (aEnc H.2.2).length ∧ (aEnc H.2.2).length ≤ 13980 ∧ τ.1 39 k = H.1 2 := by
  obtain ⟨v39, v40, v41, v42, v1⟩ := hR.2.2.2.2.2.2 h2 h4 h1
  exact ⟨v1, v42, (aEnc_len hw).1, v39⟩
theorem head20 {K : List AK} {τ : RS} {k g : Nat} {H : AF} (h2 : 2 ≤ g) (h4 : g < 4) (hR : RFl K τ k g H) (hw : H.1 0 = 1 → wfM H.2.2) : aWholeHead H 20 = true ↔ H.1 0 = 1 := by
  unfold aWholeHead
  rw [Bool.and_eq_true, decide_eq_true_eq, decide_eq_true_eq]
  refine ⟨fun z => z.1, fun z => ⟨z, ?_⟩⟩
  obtain ⟨e1, _, e3, _⟩ := shot_len h2 h4 hR z (hw z)
  rw [e1, show (20 : Int32) = Int32.ofNat 20 from rfl, i_ltn (by omega) (by omega)]
  omega
theorem shot_step {F n : Nat} {K : List AK} {τ : RS} {s g : Nat} {H : AF} {Q : RS → Prop} (hs : s < 7) (h2 : 2 ≤ g) (h4 : g < 4) (hR : RFl K τ (2 * (16 * s + g)) g H) (hw : H.1 0 = 1 → wfM H.2.2)
    (skip : H.1 0 = 0 → WP (m_recover_b220 F n τ (Int32.ofNat s) (Int32.ofNat (g + 1))) Q) (there : H.1 0 = 1 → WP (m_recover_b281 F (m_recover_b220 F n) τ 1 (Int32.ofNat s) (Int32.ofNat g) (Int32.ofNat (2 * (16 * s + g)))) Q) : WP (m_recover_b220 F (n + 1) τ (Int32.ofNat s) (Int32.ofNat g)) Q := by
  unfold m_recover_b220
  refine WP_if (p := 4 ≤ g) (i_gei (q := 4) (by omega) (by omega)) (fun y => absurd y (by omega)) (fun _ => ?_)
  refine WP_eq m_fileOf_n ?_
  refine WP_ld rfl 224 (by decide +kernel) (by omega) ?_
  rw [hR.1]
  refine WP_if c0_eq (fun q => ?_) (fun q => ?_)
  · unfold m_recover_b280 m_recover_b281 m_recover_b425
    refine WP_if c0_eq (fun _ => ?_) (fun y => absurd rfl y)
    rw [i_s]
    exact skip q
  · have h1 := hR.2.1.resolve_left q
    obtain ⟨e1, e2, e3, _⟩ := shot_len h2 h4 hR h1 (hw h1)
    have e37 : τ.1 37 (2 * (16 * s + g)) = Int32.ofNat (20 + (aEnc H.2.2).length) := hR.2.2.1.trans e1
    refine WP_ld rfl 224 (by decide +kernel) (by omega) ?_
    rw [e37]
    refine WP_if c2_lt (fun y => ?_) (fun _ => ?_)
    · exfalso
      refine Int32.not_le.mpr y ?_
      rw [show (20 : Int32) = Int32.ofNat 20 from rfl, i_ltn (by omega) (by omega)]
      omega
    · refine WP_ld rfl 224 (by decide +kernel) (by omega) ?_
      refine WP_ld rfl 224 (by decide +kernel) (by omega) ?_
      rw [e37, e2, show (20 : Int32) + Int32.ofNat (aEnc H.2.2).length = Int32.ofNat (20 + (aEnc H.2.2).length) from i_ad]
      refine WP_if c2_lt (fun y => absurd y (Int32.lt_irrefl)) (fun _ => ?_)
      exact there h1
theorem M_shots {F n : Nat} {σ τ : RS} {a : AA} {u : AU} {s : Nat} {d : Int32} {Q : RS → Prop} (hF : 14000 ≤ F) (h : RM σ a u) (hs : s < 7) (hτ : ∀ f, 37 ≤ f → f ≤ 42 → τ.1 f = σ.1 f) (hτ2 : τ.2 = σ.2) (t47 : τ.1 47 s = -1) (t55 : τ.1 55 s = 0) (t57 : τ.1 57 s = 0) (t58 : τ.1 58 s = d) (t67 : τ.1 67 s = 0)
    (hwf : ∀ g, 2 ≤ g → g < 4 → (aFc a s g).1 0 = 1 → wfM (aFc a s g).2.2) (hdist : (aFc a s 2).1 0 = 1 → (aFc a s 3).1 0 = 1 → ¬ (aFc a s 2).1 2 = (aFc a s 3).1 2)
    (fin : ∀ τ' n', ShE a s d (aLater a s 2 3 20) τ τ' → WP (m_recover_b220 F (n' + 1) τ' (Int32.ofNat s) (Int32.ofNat 4)) Q) : WP (m_recover_b220 F (n + 3) τ (Int32.ofNat s) 2) Q := by
  have z : ∀ g, 2 ≤ g → g < 4 → ∀ τ', (∀ f i, 37 ≤ f → f ≤ 42 → τ'.1 f i = τ.1 f i) → τ'.2 = τ.2 → RFl (aAk a) τ' (2 * (16 * s + g)) g (aFc a s g) := by
    intro g h2 h4 τ' e1 e2
    refine RFl_eq (fun f hf => ?_) (fun i _ => ?_) ((h.2.2.2.2.2.1 s hs g (by omega)).1)
    · simp at hf
      rw [e1 f _ (by omega) (by omega), hτ f (by omega) (by omega)]
      rfl
    · rw [e2, hτ2]
      rfl
  have start : ShE a s d (-1) τ τ := ⟨fun _ _ _ _ => rfl, rfl, t47, t55, t57, t58, t67, wf_nil, Or.inl ⟨rfl, rfl⟩⟩
  have za := z 2 (by omega) (by omega) τ (fun _ _ _ _ => rfl) rfl
  have zb := z 3 (by omega) (by omega) τ (fun _ _ _ _ => rfl) rfl
  have ha := head20 (by omega) (by omega) za (hwf 2 (by omega) (by omega))
  have hb := head20 (by omega) (by omega) zb (hwf 3 (by omega) (by omega))
  have frame : ∀ x τ', ShE a s d x τ τ' → (∀ f i, 37 ≤ f → f ≤ 42 → τ'.1 f i = τ.1 f i) ∧ τ'.2 = τ.2 := fun x τ' y => ⟨fun f i h1 h2 => y.1 f i (by omega) (by omega), y.2.1⟩
  have lat := @later_cases a s 2 3 20
  refine shot_step (g := 2) hs (by omega) (by omega) za (hwf 2 (by omega) (by omega)) (fun q2 => ?_) (fun q2 => ?_)
  · have na : ¬ aWholeHead (aFc a s 2) 20 = true := fun y => by
      rw [ha.mp y] at q2
      exact absurd q2 (by decide)
    refine shot_step (g := 3) hs (by omega) (by omega) zb (hwf 3 (by omega) (by omega)) (fun q3 => ?_) (fun q3 => ?_)
    · have nb : ¬ aWholeHead (aFc a s 3) 20 = true := fun y => by
        rw [hb.mp y] at q3
        exact absurd q3 (by decide)
      refine fin τ n ?_
      rw [lat, if_neg na, if_neg nb]
      exact start
    · unfold m_recover_b281
      refine WP_if c0_eq (fun y => absurd y (by decide)) (fun _ => ?_)
      refine WP_ld rfl 7 (by decide +kernel) hs ?_
      rw [t47]
      refine WP_if c0_lt (fun _ => ?_) (fun y => absurd (by decide) y)
      refine shot_take hF hs (by omega) (by omega) zb q3 (hwf 3 (by omega) (by omega) q3) (fun τ' y1 y2 y3 => ?_)
      refine fin τ' n ?_
      rw [lat, if_neg na, if_pos (hb.mpr q3)]
      exact ShE_take (by omega) start y1 y2 y3
  · unfold m_recover_b281
    refine WP_if c0_eq (fun y => absurd y (by decide)) (fun _ => ?_)
    refine WP_ld rfl 7 (by decide +kernel) hs ?_
    rw [t47]
    refine WP_if c0_lt (fun _ => ?_) (fun y => absurd (by decide) y)
    refine shot_take hF hs (by omega) (by omega) za q2 (hwf 2 (by omega) (by omega) q2) (fun τ' y1 y2 y3 => ?_)
    have e2 := ShE_take (g := 2) (by omega) start y1 y2 y3
    have fr := frame _ _ e2
    have zc := z 3 (by omega) (by omega) τ' fr.1 fr.2
    have v47 : τ'.1 47 s = Int32.ofNat 2 := e2.2.2.1
    have v55 : τ'.1 55 s = (aFc a s 2).1 2 := e2.2.2.2.1
    refine shot_step (g := 3) hs (by omega) (by omega) zc (hwf 3 (by omega) (by omega)) (fun q3 => ?_) (fun q3 => ?_)
    · have nb : ¬ aWholeHead (aFc a s 3) 20 = true := fun y => by
        rw [hb.mp y] at q3
        exact absurd q3 (by decide)
      refine fin τ' n ?_
      rw [lat, if_pos (ha.mpr q2), if_neg (fun y => nb y.1)]
      exact e2
    · obtain ⟨_, _, _, v39⟩ := shot_len (by omega) (by omega) zc q3 (hwf 3 (by omega) (by omega) q3)
      unfold m_recover_b281
      refine WP_if c0_eq (fun y => absurd y (by decide)) (fun _ => ?_)
      refine WP_ld rfl 7 (by decide +kernel) hs ?_
      rw [v47]
      refine WP_if c0_lt (fun y => absurd y (by decide)) (fun _ => ?_)
      refine WP_ld rfl 224 (by decide +kernel) (by omega) ?_
      refine WP_ld rfl 7 (by decide +kernel) hs ?_
      rw [v39, v55]
      refine WP_if c2_gt (fun q => ?_) (fun q => ?_)
      · refine shot_take hF hs (by omega) (by omega) zc q3 (hwf 3 (by omega) (by omega) q3) (fun τ3 w1 w2 w3 => ?_)
        refine fin τ3 n ?_
        rw [lat, if_pos (ha.mpr q2), if_pos ⟨hb.mpr q3, fun y => Int32.lt_asymm y q⟩]
        exact ShE_take (by omega) e2 w1 w2 w3
      · have hlt : (aFc a s 3).1 2 < (aFc a s 2).1 2 := by
          refine Int32.not_le.mp (fun y => ?_)
          refine hdist q2 q3 ?_
          exact Int32.le_antisymm y (Int32.not_lt.mp q)
        have last := fin τ' n
        rw [lat, if_pos (ha.mpr q2), if_neg (fun y => y.2 hlt)] at last
        unfold m_recover_b425
        rw [i_s]
        exact last e2
