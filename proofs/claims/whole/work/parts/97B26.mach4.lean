/-! keep, forget -/
theorem le_sum_mem : ∀ (l : List Nat) (x : Nat), x ∈ l → x ≤ l.sum := by
  intro l
  induction l with
  | nil => exact fun x hx => absurd hx List.not_mem_nil
  | cons y r ih =>
    intro x hx
    rw [List.sum_cons]
    rcases List.mem_cons.mp hx with z | z
    · omega
    · have := ih x z
      omega
theorem RMc_mk {σ τ : RS} {s : Nat} {M M' : AM} {sl : List Nat} (h : RMc σ s M) (hf : ∀ f, 106 ≤ f → f ≤ 112 → ∀ i, τ.1 f i = σ.1 f i) (h113 : τ.1 113 s = Int32.ofNat M'.2.length) (hw : wfM M') (e1 : M'.1 = M.1) (hK : RKs τ s M'.2 sl) : RMc τ s M' := by
  obtain ⟨c1, c2, c3, c4, c5⟩ := h
  refine ⟨hw, by rw [hf 106 (by omega) (by omega), e1]; exact c2, h113, fun i hi => ?_, sl, hK⟩
  rw [e1] at hi ⊢
  have := c4 i hi
  dsimp only at this ⊢
  rw [hf 107 (by omega) (by omega), hf 108 (by omega) (by omega), hf 109 (by omega) (by omega), hf 110 (by omega) (by omega), hf 111 (by omega) (by omega)]
  refine ⟨this.1, this.2.1, this.2.2.1, this.2.2.2.1, this.2.2.2.2.1, fun j hj => ?_⟩
  rw [hf 112 (by omega) (by omega)]
  exact this.2.2.2.2.2 j hj
theorem aUnits_lt {M : AM} (h : wfM M) : aUnits M ≤ 9 * M.2.length := by
  unfold aUnits
  have : ∀ L : List (List Int32 × List Int32), (∀ e ∈ L, e.1.length ≤ 32 ∧ e.2.length ≤ 100) → (L.map (fun e => aUnit e.1.length e.2.length)).sum ≤ 9 * L.length := by
    intro L
    induction L with
    | nil => intro _; exact Nat.le_refl _
    | cons e r ih =>
      intro hL
      rw [List.map_cons, List.sum_cons, List.length_cons]
      have h1 := ih (fun x hx => hL x (List.mem_cons_of_mem _ hx))
      obtain ⟨h2, h3⟩ := hL e List.mem_cons_self
      have : aUnit e.1.length e.2.length ≤ 9 := by unfold aUnit; omega
      omega
  exact this _ (fun e he => ⟨(h.2.2.2 e he).1, (h.2.2.2 e he).2.1⟩)
theorem rk_free {σ : RS} {s : Nat} {M : AM} {sl : List Nat} (h : RLk σ s M sl) (hL : M.2.length < 128) : ∃ k, k < 128 ∧ σ.1 119 (128 * s + k) = 0 := by
  obtain ⟨h1, h2, h3, h4, h5, h6, h7⟩ := h
  have : ¬ ∀ k, k < 128 → k ∈ sl := by
    intro y
    have := pigeon 128 _ h4 y
    omega
  obtain ⟨k, hk⟩ := Classical.not_forall.mp this
  obtain ⟨hk1, hk2⟩ := Classical.not_imp.mp hk
  exact ⟨k, hk1, by rw [h6 k hk1, if_neg hk2]⟩
theorem un_app {L L' : List (List Int32 × List Int32)} : ((L ++ L').map (fun e => aUnit e.1.length e.2.length)).sum = (L.map (fun e => aUnit e.1.length e.2.length)).sum + (L'.map (fun e => aUnit e.1.length e.2.length)).sum := by
  rw [List.map_append, List.sum_append]
theorem un_ins {M : AM} {k v : List Int32} {r : Nat} : aUnits (M.1, M.2.take r ++ (k, v) :: M.2.drop r) = aUnits M + aUnit k.length v.length := by
  unfold aUnits
  have h : (M.2.map (fun e => aUnit e.1.length e.2.length)).sum = ((M.2.take r ++ M.2.drop r).map (fun e => aUnit e.1.length e.2.length)).sum := by rw [List.take_append_drop]
  show ((M.2.take r ++ (k, v) :: M.2.drop r).map _).sum = _
  rw [h, un_app, un_app, List.map_cons, List.sum_cons]
  show _ + (aUnit k.length v.length + _) = _
  omega
theorem un_rep {M : AM} {k v : List Int32} {r : Nat} (hr : r < M.2.length) : aUnits (M.1, M.2.take r ++ (k, v) :: M.2.drop (r + 1)) + aUnit (M.2.getD r ([], [])).1.length (M.2.getD r ([], [])).2.length = aUnits M + aUnit k.length v.length := by
  unfold aUnits
  have h : (M.2.map (fun e => aUnit e.1.length e.2.length)).sum = ((M.2.take r ++ M.2.drop r).map (fun e => aUnit e.1.length e.2.length)).sum := by rw [List.take_append_drop]
  show ((M.2.take r ++ (k, v) :: M.2.drop (r + 1)).map _).sum + _ = _
  rw [h, un_app, un_app, List.map_cons, List.sum_cons, getD_drop (d := ([], [])) hr, List.map_cons, List.sum_cons]
  show _ + (aUnit k.length v.length + _) + _ = _
  omega
theorem un_del {M : AM} {r : Nat} : aUnits (M.1, M.2.eraseIdx r) ≤ aUnits M := by
  unfold aUnits
  show ((M.2.eraseIdx r).map _).sum ≤ _
  by_cases hr : r < M.2.length
  · have h : (M.2.map (fun e => aUnit e.1.length e.2.length)).sum = ((M.2.take r ++ M.2.drop r).map (fun e => aUnit e.1.length e.2.length)).sum := by rw [List.take_append_drop]
    rw [List.eraseIdx_eq_take_drop_succ, h, un_app, un_app, getD_drop (d := ([], [])) hr, List.map_cons, List.sum_cons]
    omega
  · rw [List.eraseIdx_of_length_le (by omega)]
    exact Nat.le_refl _
theorem wfM_keep {M : AM} {k v : List Int32} {r d : Nat} (w : wfM M) (hk : k.length ≤ 32) (hv : v.length ≤ 100) (bk : ∀ b ∈ k, aLow8 b = b) (bv : ∀ b ∈ v, aLow8 b = b) (hl : (M.2.take r ++ (k, v) :: M.2.drop (r + d)).length ≤ 128) (hu : aUnits (M.1, M.2.take r ++ (k, v) :: M.2.drop (r + d)) ≤ 700) : wfM (M.1, M.2.take r ++ (k, v) :: M.2.drop (r + d)) := by
  refine ⟨⟨w.1.1, hu⟩, hl, w.2.2.1, fun e he => ?_⟩
  rcases List.mem_append.mp he with z | z
  · exact w.2.2.2 e (List.mem_of_mem_take z)
  · rcases List.mem_cons.mp z with z | z
    · rw [z]
      exact ⟨hk, hv, bk, bv⟩
    · exact w.2.2.2 e (List.mem_of_mem_drop z)
theorem i_ltn {p q : Nat} (hp : p < 2147483648) (hq : q < 2147483648) : Int32.ofNat p ≤ Int32.ofNat q ↔ p ≤ q := Int32.ofNat_le_ofNat hp hq
theorem m_keep_n {F : Nat} {σ : RS} {s at0 fr : Nat} {M : AM} {k v : List Int32} (hF : 400 ≤ F) (hs : s < 7) (h : RMc σ s M) (hk : k.length ≤ 32) (hv : v.length ≤ 100) (bk : ∀ b ∈ k, aLow8 b = b) (bv : ∀ b ∈ v, aLow8 b = b) (ha : at0 + k.length ≤ 917504) (hfr : fr + v.length ≤ 917504) (hsk : ∀ j, j < k.length → rB (σ.2 63) (at0 + j) = k.getD j 0) (hsv : ∀ j, j < v.length → rB (σ.2 63) (fr + j) = v.getD j 0) :
    WP (m_keep F σ (Int32.ofNat s) (Int32.ofNat at0) (Int32.ofNat k.length) (Int32.ofNat fr) (Int32.ofNat v.length)) (fun p => match aKeep M k v with
      | none => p.1 = 0 ∧ p.2 = σ
      | some M' => p.1 = 1 ∧ SLm s σ p.2 ∧ RMc p.2 s M') := by
  obtain ⟨sl, hlk⟩ := RMc_k h
  have hlk' := hlk
  obtain ⟨w, h113, hK⟩ := hlk'
  have hun := aUnits_lt w
  have hle := @aRank_le M k
  have hsrc : kSrc σ 0 at0 k := Or.inl ⟨rfl, ha, hsk⟩
  have e262 : aRank M k < M.2.length → (M.2.getD (aRank M k) ([], [])).1 = k → aUnits M - aUnit k.length (M.2.getD (aRank M k) ([], [])).2.length + aUnit k.length v.length ≤ 700 → WP (m_keep_b262 F σ (Int32.ofNat fr) (Int32.ofNat v.length) (Int32.ofNat (128 * s + sl.getD (aRank M k) 0))) (fun p => p.1 = 1 ∧ SLm s σ p.2 ∧ RMc p.2 s (M.1, M.2.take (aRank M k) ++ (k, v) :: M.2.drop (aRank M k + 1))) := by
    intro hj ek hun
    have hsl := sl_lt hK hj
    refine WP_mono (kp262 (s := s) hF (by omega) (by omega) hv hfr hsv) ?_
    rintro p ⟨p1, p2, p3, p4, p5⟩
    have hl : (M.2.take (aRank M k) ++ (k, v) :: M.2.drop (aRank M k + 1)).length = M.2.length := by
      rw [List.length_append, List.length_take, List.length_cons, List.length_drop]
      omega
    refine ⟨p1, p2, RMc_mk h (fun f f1 f2 i => p3 f i (by omega) (by omega)) ?_ (wfM_keep w hk hv bk bv (by rw [hl]; exact w.2.1) (by
      have := un_rep (M := M) (k := k) (v := v) hj
      rw [ek] at this
      omega)) rfl (RK_val hK hj ek p3 p4 p5 (fun i hi => (wf_get w hi).2.1))⟩
    rw [p3 113 s (by omega) (by omega), h113]
    show Int32.ofNat M.2.length = Int32.ofNat (M.2.take (aRank M k) ++ (k, v) :: M.2.drop (aRank M k + 1)).length
    rw [hl]
  have b59 : ∀ (had : Nat) (found : Int32), had ≤ aUnits M → ((aFind M k).isNone → M.2.length < 128) → found = rFind s M sl k → had = (match aFind M k with
      | some w => aUnit k.length w.length
      | none => 0) → WP (m_keep_b59 F σ (Int32.ofNat s) (Int32.ofNat at0) (Int32.ofNat k.length) (Int32.ofNat fr) (Int32.ofNat v.length) found (Int32.ofNat had)) (fun p => match aKeep M k v with
      | none => p.1 = 0 ∧ p.2 = σ
      | some M' => p.1 = 1 ∧ SLm s σ p.2 ∧ RMc p.2 s M') := by
    intro had found hh hroom hfo hhad
    unfold m_keep_b59 m_keep_b84
    refine WP_eq (m_units_n hF hs hlk) ?_
    rw [if_neg (by decide), i_subn hh, i_ad, show Int32.ofNat (k.length + v.length) + 15 = Int32.ofNat (k.length + v.length + 15) from i_ad (s := 15), show (16 : Int32) = Int32.ofNat 16 from rfl, i_div (by omega) (by omega) (by omega), i_ad]
    have hwl := w.2.1
    refine WP_if (p := aUnits M - had + (k.length + v.length + 15) / 16 ≤ 700) (c2_le.trans (i_ltn (q := 700) (by omega) (by omega))) (fun q => ?_) (fun q => ?_)
    · rw [hfo]
      unfold rFind
      cases e : aFind M k with
      | some x =>
        rw [e] at hhad
        have hhad : had = aUnit k.length x.length := hhad
        have eK : aKeep M k v = some (M.1, M.2.take (aRank M k) ++ (k, v) :: M.2.drop (aRank M k + 1)) := by
          unfold aKeep
          simp only [e]
          rw [if_neg]
          · rfl
          · rintro (z | z)
            · exact absurd z.1 (by simp)
            · rw [← hhad] at z
              have : aUnit k.length v.length = (k.length + v.length + 15) / 16 := rfl
              omega
        rw [eK]
        dsimp only
        have hj : aRank M k < M.2.length := by
          rw [aFind_e] at e
          by_cases z : aRank M k < M.2.length
          · exact z
          · rw [if_neg z] at e
            exact absurd e (by simp)
        have ek : (M.2.getD (aRank M k) ([], [])).1 = k := by
          rw [aFind_e, if_pos hj] at e
          by_cases z : aCmp (M.2.getD (aRank M k) ([], [])).1 k = 0
          · obtain ⟨w1, w2, w3, w4⟩ := wf_get w hj
            exact aCmp_0 _ _ w3 bk (by omega) (by omega) z
          · rw [if_neg z] at e
            exact absurd e (by simp)
        have hsl := sl_lt hK hj
        refine WP_if c0_ge (fun _ => ?_) (fun y => ?_)
        · refine e262 hj ek ?_
          have hx : x = (M.2.getD (aRank M k) ([], [])).2 := by
            rw [aFind_e, if_pos hj] at e
            by_cases z : aCmp (M.2.getD (aRank M k) ([], [])).1 k = 0
            · rw [if_pos z] at e
              exact (Option.some.inj e).symm
            · rw [if_neg z] at e
              exact absurd e (by simp)
          rw [← hx, ← hhad]
          exact q
        · exact absurd (by rw [Int32.le_iff_toInt_le, i_0]; show (0 : Int) ≤ (Int32.ofNat _).toInt; rw [Int32.toInt_ofNat_of_lt (by omega)]; omega) y
      | none =>
        rw [e] at hhad
        have hhad : had = 0 := hhad
        have hroom' := hroom (by rw [e]; rfl)
        have eK : aKeep M k v = some (M.1, M.2.take (aRank M k) ++ (k, v) :: M.2.drop (aRank M k)) := by
          unfold aKeep
          simp only [e]
          rw [if_neg]
          · rfl
          · rintro (z | z)
            · have := z.2
              omega
            · have : aUnit k.length v.length = (k.length + v.length + 15) / 16 := rfl
              omega
        rw [eK]
        dsimp only
        refine WP_if c0_ge (fun y => absurd (show (0 : Int32) ≤ -1 from y) (by decide)) (fun _ => ?_)
        refine WP_eq (m_rank_n hF hs hlk hsrc (by omega)) ?_
        obtain ⟨f1, f2, f3⟩ := rk_free hlk hroom'
        refine WP_mono (kp104 hF hs hlk hroom' hle hk hv ha hfr hsk hsv f2 f3 F 0 (by omega) (Nat.zero_le _)) ?_
        rintro p ⟨p1, f0, p2, p3, p4⟩
        have hl : (M.2.take (aRank M k) ++ (k, v) :: M.2.drop (aRank M k)).length = M.2.length + 1 := by
          rw [List.length_append, List.length_take, List.length_cons, List.length_drop]
          omega
        refine ⟨p1, p4.1, RMc_mk h (fun f f1 f2 i => p4.2.2.2.2.2.2.2.2.2.2.2 f f1 f2 i) ?_ (wfM_keep (d := 0) w hk hv bk bv (by show (M.2.take (aRank M k) ++ (k, v) :: M.2.drop (aRank M k)).length ≤ 128; rw [hl]; omega) (by
          show aUnits (M.1, M.2.take (aRank M k) ++ (k, v) :: M.2.drop (aRank M k)) ≤ 700
          rw [un_ins]
          have : aUnit k.length v.length = (k.length + v.length + 15) / 16 := rfl
          omega)) rfl (RK_ins hK hroom' hle p2 p3 (fun i hi => ⟨(wf_get w hi).1, (wf_get w hi).2.1⟩) p4)⟩
        rw [p4.2.1]
        show _ = Int32.ofNat (M.2.take (aRank M k) ++ (k, v) :: M.2.drop (aRank M k)).length
        rw [hl]
    · have eK : aKeep M k v = none := by
        unfold aKeep
        cases e : aFind M k with
        | some x =>
          rw [e] at hhad
          have hhad : had = aUnit k.length x.length := hhad
          dsimp only
          rw [if_pos]
          refine Or.inr ?_
          rw [← hhad]
          have : aUnit k.length v.length = (k.length + v.length + 15) / 16 := rfl
          omega
        | none =>
          rw [e] at hhad
          have hhad : had = 0 := hhad
          dsimp only
          rw [if_pos]
          refine Or.inr ?_
          have : aUnit k.length v.length = (k.length + v.length + 15) / 16 := rfl
          omega
      rw [eK, if_pos (Or.inl rfl)]
      exact WP_some ⟨rfl, rfl⟩
  unfold m_keep m_keep_b0
  refine WP_eq (m_find_n hF hs hlk hsrc (by omega)) ?_
  cases e : aFind M k with
  | some x =>
    have hj : aRank M k < M.2.length := by
      rw [aFind_e] at e
      by_cases z : aRank M k < M.2.length
      · exact z
      · rw [if_neg z] at e
        exact absurd e (by simp)
    have hx : x = (M.2.getD (aRank M k) ([], [])).2 ∧ (M.2.getD (aRank M k) ([], [])).1 = k := by
      rw [aFind_e, if_pos hj] at e
      by_cases z : aCmp (M.2.getD (aRank M k) ([], [])).1 k = 0
      · rw [if_pos z] at e
        obtain ⟨w1, w2, w3, w4⟩ := wf_get w hj
        exact ⟨(Option.some.inj e).symm, aCmp_0 _ _ w3 bk (by omega) (by omega) z⟩
      · rw [if_neg z] at e
        exact absurd e (by simp)
    have hsl := sl_lt hK hj
    have er : rFind s M sl k = Int32.ofNat (128 * s + sl.getD (aRank M k) 0) := by
      unfold rFind
      rw [e]
      rfl
    have hge : (0 : Int32) ≤ Int32.ofNat (128 * s + sl.getD (aRank M k) 0) := by
      rw [Int32.le_iff_toInt_le, i_0, Int32.toInt_ofNat_of_lt (by omega)]
      omega
    obtain ⟨e1, e2, e3, e4, e5⟩ := hK.2.2.2.2 _ hj
    obtain ⟨w1, w2, w3, w4⟩ := wf_get w hj
    rw [er]
    refine WP_if c0_ge (fun _ => ?_) (fun y => absurd hge y)
    refine WP_ld rfl 896 (by decide +kernel) (by omega) ?_
    refine WP_ld rfl 896 (by decide +kernel) (by omega) ?_
    rw [e2, e3, if_neg (by decide), i_ad, show Int32.ofNat ((M.2.getD (aRank M k) ([], [])).1.length + (M.2.getD (aRank M k) ([], [])).2.length) + 15 = Int32.ofNat ((M.2.getD (aRank M k) ([], [])).1.length + (M.2.getD (aRank M k) ([], [])).2.length + 15) from i_ad (s := 15), show (16 : Int32) = Int32.ofNat 16 from rfl, i_div (by omega) (by omega) (by omega)]
    unfold m_keep_b40
    refine WP_if c0_ge (fun _ => ?_) (fun y => absurd hge y)
    have := b59 (((M.2.getD (aRank M k) ([], [])).1.length + (M.2.getD (aRank M k) ([], [])).2.length + 15) / 16) (Int32.ofNat (128 * s + sl.getD (aRank M k) 0)) ?_ (fun z => by rw [e] at z; exact absurd z (by simp)) er.symm ?_
    · exact this
    · have hm : aUnit (M.2.getD (aRank M k) ([], [])).1.length (M.2.getD (aRank M k) ([], [])).2.length ∈ M.2.map (fun e => aUnit e.1.length e.2.length) := by
        refine List.mem_map.mpr ⟨M.2.getD (aRank M k) ([], []), ?_, rfl⟩
        rw [List.getD_eq_getElem?_getD, List.getElem?_eq_getElem hj]
        exact List.getElem_mem hj
      exact le_sum_mem _ _ hm
    · rw [e]
      show _ = aUnit k.length x.length
      have hlen := congrArg List.length hx.2
      rw [hx.1]
      unfold aUnit
      rw [hlen]
  | none =>
    have er : rFind s M sl k = -1 := by
      unfold rFind
      rw [e]
      rfl
    rw [er]
    refine WP_if c0_ge (fun y => absurd (show (0 : Int32) ≤ -1 from y) (by decide)) (fun _ => ?_)
    unfold m_keep_b40
    refine WP_if c0_ge (fun y => absurd (show (0 : Int32) ≤ -1 from y) (by decide)) (fun _ => ?_)
    refine WP_ld rfl 7 (by decide +kernel) hs ?_
    rw [h113]
    have hwl := w.2.1
    refine WP_if (p := M.2.length = 128) (c2_eq.trans (i_eqi (q := 128) (by omega) (by omega))) (fun q => ?_) (fun q => ?_)
    · have eK : aKeep M k v = none := by
        unfold aKeep
        dsimp only
        rw [if_pos]
        exact Or.inl ⟨by rw [e]; rfl, q⟩
      unfold m_keep_b84
      rw [eK, if_pos (Or.inl rfl)]
      exact WP_some ⟨rfl, rfl⟩
    · exact b59 0 (-1) (Nat.zero_le _) (fun _ => by omega) er.symm (by rw [e])
