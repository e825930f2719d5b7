/-! the face: messages told of, meddled with -/
theorem way_at {σ : RS} {K : List AK} {w : List AP} {ws : List (Nat × AP)} {m j : Nat} {x : AP} (z3 : ws.map Prod.snd = w) (z5 : ∀ p ∈ ws, p.1 < 128 ∧ σ.1 18 p.1 = p.2.1 ∧ σ.1 19 p.1 = p.2.2.1 ∧ RLt K σ p.1 p.2.2.2) (z6 : ∀ k, k < 128 → σ.1 17 k = if k ∈ ws.map Prod.fst then 1 else 0) (ev : w.Pairwise (fun x y => x.1 < y.1 ∨ (x.1 = y.1 ∧ x.2.1 < y.2.1)))
    (hj : j < 128) (h17 : σ.1 17 j = 1) (h18 : σ.1 18 j = x.1) (h19 : σ.1 19 j = x.2.1) (hm : w[m]? = some x) : ∃ c d, ws = c ++ (j, x) :: d ∧ c.length = m := by
  have hmem : j ∈ ws.map Prod.fst := by
    have := z6 j hj
    by_cases q : j ∈ ws.map Prod.fst
    · exact q
    · rw [if_neg q, h17] at this
      exact absurd this (by decide)
  rw [List.mem_map] at hmem
  obtain ⟨p, hp, ep⟩ := hmem
  obtain ⟨c, d, e⟩ := List.append_of_mem hp
  have y := z5 p hp
  have g1 : w[c.length]? = some p.2 := by
    rw [← z3, e, List.map_append, List.getElem?_append_right (by rw [List.length_map]; exact Nat.le_refl _), List.length_map, Nat.sub_self]
    rfl
  obtain ⟨l1, v1⟩ := List.getElem?_eq_some_iff.mp g1
  obtain ⟨l2, v2⟩ := List.getElem?_eq_some_iff.mp hm
  rw [ep, h18] at y
  have f1 : x.1 = p.2.1 := y.2.1
  have f2 : x.2.1 = p.2.2.1 := by
    have := y.2.2.1
    rw [h19] at this
    exact this
  have em : c.length = m := by
    rcases Nat.lt_trichotomy c.length m with z | z | z
    · exfalso
      have := List.pairwise_iff_getElem.mp ev _ _ l1 l2 z
      rw [v1, v2, f1, f2] at this
      simp only [Int32.lt_iff_toInt_lt] at this
      omega
    · exact z
    · exfalso
      have := List.pairwise_iff_getElem.mp ev _ _ l2 l1 z
      rw [v1, v2, f1, f2] at this
      simp only [Int32.lt_iff_toInt_lt] at this
      omega
  refine ⟨c, d, ?_, em⟩
  have ex : p.2 = x := by
    rw [em] at g1
    rw [g1] at hm
    exact Option.some.inj hm
  rw [e, ← ex, ← ep]
/-- a letter is lost on its way -/
theorem RM_lose {σ : RS} {a : AA} {u : AU} {m j : Nat} {x : AP} (h : RM σ a u) (ev : (aWay a).Pairwise (fun x y => x.1 < y.1 ∨ (x.1 = y.1 ∧ x.2.1 < y.2.1))) (hj : j < 128) (h17 : σ.1 17 j = 1) (h18 : σ.1 18 j = x.1) (h19 : σ.1 19 j = x.2.1) (hm : (aWay a)[m]? = some x) : RM (setI (setI σ 17 j 0) 20 0 (σ.1 20 0 - 1)) (aWayS a ((aWay a).eraseIdx m)) u := by
  obtain ⟨z1, z2, ws, z3, z4, z5, z6⟩ := h.2.1
  obtain ⟨c, d, e, ec⟩ := way_at z3 z5 z6 ev hj h17 h18 h19 hm
  have hF : Fr [17, 20] [] σ (setI (setI σ 17 j 0) 20 0 (σ.1 20 0 - 1)) := Fr_w (Fr_t Fr_I Fr_I) (by simp) (by simp)
  have ew : (aWay a).eraseIdx m = (c ++ d).map Prod.snd := by
    rw [← z3, e, List.map_append, List.map_cons, List.eraseIdx_append_of_length_le (by rw [List.length_map]; omega), List.length_map, ec, Nat.sub_self, List.eraseIdx_cons_zero, ← List.map_append]
  have hlen : (aWay a).length = (c ++ d).length + 1 := by
    rw [← z3, List.length_map, e, List.length_append, List.length_append, List.length_cons]
    omega
  have hway : RWay (aAk a) (setI (setI σ 17 j 0) 20 0 (σ.1 20 0 - 1)) ((aWay a).eraseIdx m) := by
    rw [e, List.map_append, List.map_cons] at z4
    have nd2 : ((c ++ d).map Prod.fst).Nodup ∧ j ∉ (c ++ d).map Prod.fst := by
      have := (List.Perm.nodup_iff (List.perm_middle (a := j) (l₁ := c.map Prod.fst) (l₂ := d.map Prod.fst))).mp z4
      rw [List.nodup_cons, ← List.map_append] at this
      exact ⟨this.2, this.1⟩
    rw [ew]
    refine ⟨?_, ?_, c ++ d, rfl, nd2.1, fun p hp => ?_, fun k hk => ?_⟩
    · rw [setI_e, z1, hlen, List.length_map, i_pre (by omega), Nat.add_sub_cancel]
    · rw [List.length_map]
      omega
    · have hp' : p ∈ ws := by
        rw [e]
        rcases List.mem_append.mp hp with y | y
        · exact List.mem_append_left _ y
        · exact List.mem_append_right _ (List.mem_cons_of_mem _ y)
      obtain ⟨y1, y2, y3, y4⟩ := z5 p hp'
      refine ⟨y1, ?_, ?_, RLt_fr hF (by decide) y4⟩
      · rw [setI_f (by decide), setI_f (by decide)]
        exact y2
      · rw [setI_f (by decide), setI_f (by decide)]
        exact y3
    · rw [setI_f (by decide)]
      by_cases q : k = j
      · rw [q, setI_e, if_neg nd2.2]
      · rw [setI_i q, z6 k hk, e]
        have : k ∈ (c ++ (j, x) :: d).map Prod.fst ↔ k ∈ (c ++ d).map Prod.fst := by
          rw [List.map_append, List.map_append, List.map_cons, List.mem_append, List.mem_append, List.mem_cons]
          constructor
          · rintro (y | y | y)
            · exact Or.inl y
            · exact absurd y q
            · exact Or.inr y
          · rintro (y | y)
            · exact Or.inl y
            · exact Or.inr (Or.inr y)
        simp only [this]
  exact ⟨RSc_fr hF (by decide) h.1, hway, fun s hs => RWt_fr hF (by decide) (h.2.2.1 s hs), fun l hl => RLt_fr hF (by decide) (h.2.2.2.1 l hl), fun s hs => RLog_fr hF (by decide) (h.2.2.2.2.1 s hs), fun s hs => RDk_fr hF (by decide) (h.2.2.2.2.2.1 s hs), fun s hs => RSl_fr hF (by decide) (h.2.2.2.2.2.2.1 s hs), fun s hs hu => RCh_fr hF (by decide) (h.2.2.2.2.2.2.2.1 s hs hu), fun s hs hu => RAt_fr hF (by decide) (h.2.2.2.2.2.2.2.2.1 s hs hu), fun s hs => RMc_fr hF (by decide) (h.2.2.2.2.2.2.2.2.2.1 s hs), fun s hs => RSh_fr hF (by decide) (h.2.2.2.2.2.2.2.2.2.2.1 s hs), fun s hs => RPc_fr hF (by decide) (h.2.2.2.2.2.2.2.2.2.2.2.1 s hs), fun s hs => RRq_fr hF (by decide) (h.2.2.2.2.2.2.2.2.2.2.2.2.1 s hs), RAk_fr hF (by decide) h.2.2.2.2.2.2.2.2.2.2.2.2.2.1, fun s hs => RWn_fr hF (by decide) (h.2.2.2.2.2.2.2.2.2.2.2.2.2.2.1 s hs), RTp_fr hF (by decide) h.2.2.2.2.2.2.2.2.2.2.2.2.2.2.2.1, RRe_fr hF (by decide) h.2.2.2.2.2.2.2.2.2.2.2.2.2.2.2.2.1, fun s hs => RDn_fr hF (by decide) (h.2.2.2.2.2.2.2.2.2.2.2.2.2.2.2.2.2.1 s hs), RSum_fr hF (by decide) h.2.2.2.2.2.2.2.2.2.2.2.2.2.2.2.2.2.2.1, h.2.2.2.2.2.2.2.2.2.2.2.2.2.2.2.2.2.2.2.1, h.2.2.2.2.2.2.2.2.2.2.2.2.2.2.2.2.2.2.2.2.1, h.2.2.2.2.2.2.2.2.2.2.2.2.2.2.2.2.2.2.2.2.2.1, h.2.2.2.2.2.2.2.2.2.2.2.2.2.2.2.2.2.2.2.2.2.2.1, h.2.2.2.2.2.2.2.2.2.2.2.2.2.2.2.2.2.2.2.2.2.2.2⟩
/-- a letter arrives later -/
theorem RM_later {σ : RS} {a : AA} {u : AU} {m j : Nat} {x : AP} {t : Int32} (h : RM σ a u) (ev : (aWay a).Pairwise (fun x y => x.1 < y.1 ∨ (x.1 = y.1 ∧ x.2.1 < y.2.1))) (hj : j < 128) (h17 : σ.1 17 j = 1) (h18 : σ.1 18 j = x.1) (h19 : σ.1 19 j = x.2.1) (hm : (aWay a)[m]? = some x) : RM (setI (setI (setI σ 18 j t) 19 j (σ.1 2 0)) 2 0 (σ.1 2 0 + 1)) (aWayS (aAdd a 2 0 1) (aIns (t, aS a 2 0, x.2.2) ((aWay a).eraseIdx m))) u := by
  obtain ⟨z1, z2, ws, z3, z4, z5, z6⟩ := h.2.1
  obtain ⟨c, d, e, ec⟩ := way_at z3 z5 z6 ev hj h17 h18 h19 hm
  have e2 : σ.1 2 0 = aS a 2 0 := RM_0 h (by decide)
  have hF : Fr [18, 19, 2] [] σ (setI (setI (setI σ 18 j t) 19 j (σ.1 2 0)) 2 0 (σ.1 2 0 + 1)) := Fr_w (Fr_t (Fr_t Fr_I Fr_I) Fr_I) (by simp) (by simp)
  have ew : (aWay a).eraseIdx m = (c ++ d).map Prod.snd := by
    rw [← z3, e, List.map_append, List.map_cons, List.eraseIdx_append_of_length_le (by rw [List.length_map]; omega), List.length_map, ec, Nat.sub_self, List.eraseIdx_cons_zero, ← List.map_append]
  have hlen : (aWay a).length = (c ++ d).length + 1 := by
    rw [← z3, List.length_map, e, List.length_append, List.length_append, List.length_cons]
    omega
  obtain ⟨ws', y1, y2, y3⟩ := aIns_map t (aS a 2 0) x.2.2 j (c ++ d)
  rw [e, List.map_append, List.map_cons] at z4
  have pm : (c.map Prod.fst ++ j :: d.map Prod.fst).Perm (j :: (c ++ d).map Prod.fst) := by
    rw [List.map_append]
    exact List.perm_middle
  have nd2 : ((c ++ d).map Prod.fst).Nodup ∧ j ∉ (c ++ d).map Prod.fst := by
    have := pm.nodup_iff.mp z4
    rw [List.nodup_cons] at this
    exact ⟨this.2, this.1⟩
  have hx : (j, x) ∈ ws := by rw [e]; simp
  have hxj := z5 (j, x) hx
  have hway : RWay (aAk a) (setI (setI (setI σ 18 j t) 19 j (σ.1 2 0)) 2 0 (σ.1 2 0 + 1)) (aIns (t, aS a 2 0, x.2.2) ((aWay a).eraseIdx m)) := by
    rw [ew]
    refine ⟨?_, ?_, ws', y1, ?_, fun p hp => ?_, fun k hk => ?_⟩
    · rw [setI_f (by decide), setI_f (by decide), setI_f (by decide), z1, aIns_len, List.length_map, hlen]
    · rw [aIns_len, List.length_map]
      omega
    · exact y3.nodup_iff.mpr (List.nodup_cons.mpr ⟨nd2.2, nd2.1⟩)
    · rcases (y2 p).mp hp with rfl | hp
      · refine ⟨hj, ?_, ?_, RLt_fr hF (by decide) hxj.2.2.2⟩
        · rw [setI_f (by decide), setI_f (by decide), setI_e]
        · rw [setI_f (by decide), setI_e, e2]
      · have hp' : p ∈ ws := by
          rw [e]
          rcases List.mem_append.mp hp with y | y
          · exact List.mem_append_left _ y
          · exact List.mem_append_right _ (List.mem_cons_of_mem _ y)
        have ne : p.1 ≠ j := fun z => nd2.2 (by rw [← z]; exact List.mem_map.mpr ⟨p, hp, rfl⟩)
        obtain ⟨w1, w2, w3, w4⟩ := z5 p hp'
        refine ⟨w1, ?_, ?_, RLt_fr hF (by decide) w4⟩
        · rw [setI_f (by decide), setI_f (by decide), setI_i ne]
          exact w2
        · rw [setI_f (by decide), setI_i ne, setI_f (by decide)]
          exact w3
    · rw [setI_f (by decide), setI_f (by decide), setI_f (by decide), z6 k hk, e]
      have : k ∈ (c ++ (j, x) :: d).map Prod.fst ↔ k ∈ ws'.map Prod.fst := by
        rw [List.map_append, List.map_cons, pm.mem_iff, y3.mem_iff]
      simp only [this]
  have hsc : RSc (setI (setI (setI σ 18 j t) 19 j (σ.1 2 0)) 2 0 (σ.1 2 0 + 1)) (aAdd a 2 0 1) := by
    have s1 : RSc (setI (setI σ 18 j t) 19 j (σ.1 2 0)) a := RSc_fr (Fr_t Fr_I Fr_I) (by decide) h.1
    rw [e2] at s1 ⊢
    exact RSc_I s1
  exact ⟨hsc, hway, fun s hs => RWt_fr hF (by decide) (h.2.2.1 s hs), fun l hl => RLt_fr hF (by decide) (h.2.2.2.1 l hl), fun s hs => RLog_fr hF (by decide) (h.2.2.2.2.1 s hs), fun s hs => RDk_fr hF (by decide) (h.2.2.2.2.2.1 s hs), fun s hs => RSl_fr hF (by decide) (h.2.2.2.2.2.2.1 s hs), fun s hs hu => RCh_fr hF (by decide) (h.2.2.2.2.2.2.2.1 s hs hu), fun s hs hu => RAt_fr hF (by decide) (h.2.2.2.2.2.2.2.2.1 s hs hu), fun s hs => RMc_fr hF (by decide) (h.2.2.2.2.2.2.2.2.2.1 s hs), fun s hs => RSh_fr hF (by decide) (h.2.2.2.2.2.2.2.2.2.2.1 s hs), fun s hs => RPc_fr hF (by decide) (h.2.2.2.2.2.2.2.2.2.2.2.1 s hs), fun s hs => RRq_fr hF (by decide) (h.2.2.2.2.2.2.2.2.2.2.2.2.1 s hs), RAk_fr hF (by decide) h.2.2.2.2.2.2.2.2.2.2.2.2.2.1, fun s hs => RWn_fr hF (by decide) (h.2.2.2.2.2.2.2.2.2.2.2.2.2.2.1 s hs), RTp_fr hF (by decide) h.2.2.2.2.2.2.2.2.2.2.2.2.2.2.2.1, RRe_fr hF (by decide) h.2.2.2.2.2.2.2.2.2.2.2.2.2.2.2.2.1, fun s hs => RDn_fr hF (by decide) (h.2.2.2.2.2.2.2.2.2.2.2.2.2.2.2.2.2.1 s hs), RSum_fr hF (by decide) h.2.2.2.2.2.2.2.2.2.2.2.2.2.2.2.2.2.2.1, h.2.2.2.2.2.2.2.2.2.2.2.2.2.2.2.2.2.2.2.1, h.2.2.2.2.2.2.2.2.2.2.2.2.2.2.2.2.2.2.2.2.1, h.2.2.2.2.2.2.2.2.2.2.2.2.2.2.2.2.2.2.2.2.2.1, h.2.2.2.2.2.2.2.2.2.2.2.2.2.2.2.2.2.2.2.2.2.2.1, h.2.2.2.2.2.2.2.2.2.2.2.2.2.2.2.2.2.2.2.2.2.2.2⟩
theorem F_message {F : Nat} {σ : RS} {a : AA} {u : AU} {k what : Int32} (hF : 200 ≤ F) (h : RM σ a u) (ev : (aWay a).Pairwise (fun x y => x.1 < y.1 ∨ (x.1 = y.1 ∧ x.2.1 < y.2.1))) : FW (m_message F σ k what) (A_message (aI a 0 0 0) k what) u := by
  unfold A_message m_message m_message_b0 m_message_b23
  rw [show aWay (aI a 0 0 0) = aWay a from rfl]
  have thr : ∀ v l3, FW (m_message_b28 F σ 1 what l3) (aI a 0 0 0, 1, v) u := by
    intro v l3
    unfold m_message_b28
    refine FW_no (by decide) (WP_th h (fun τ hτ e0 => ?_))
    rw [e0]
    exact WP_if c0_le (fun y => absurd y (by decide)) (fun _ => WP_some hτ)
  refine WP_call (M_kth hF h ev) (fun p hp => ?_)
  obtain ⟨p1, p2⟩ := hp
  rw [p1]
  rcases p2 with ⟨e1, hk⟩ | ⟨j, x, j1, j2, j3, j4, j5, j6, j7, j8⟩
  · rw [e1]
    refine WP_if c0_lt (fun _ => ?_) (fun y => absurd (by decide) y)
    by_cases q : k < 0 ∨ aInR what 0 4 = false
    · rw [if_pos q]
      exact thr 0 _
    · rw [if_neg q]
      rcases hk with z | z
      · exact absurd (Or.inl z) q
      · rw [z]
        exact thr 0 _
  · rw [j2]
    refine WP_if c0_lt (fun y => absurd y (i_nn (by omega))) (fun _ => ?_)
    by_cases q3 : aInR what 0 4 = true
    · refine WP_in (lo' := 0) (hi' := 4) (by decide) (by decide) (fun _ => ?_) (fun y => by rw [q3] at y; exact absurd y (by decide))
      refine WP_if c0_ne (fun _ => ?_) (fun y => absurd (show ¬ (1 : Int32) = 0 by decide) y)
      rw [if_neg (fun y => y.elim j3 (fun z => by rw [q3] at z; exact absurd z (by decide))), j4]
      dsimp only
      unfold m_message_b28 m_message_b101
      obtain ⟨y1, y2, y3, y4, _⟩ := j8
      refine FW_ok (b := aI a 0 0 0) (v := if what = 0 then x.2.2.1 2 else if what = 1 then x.2.2.1 3 else if what = 2 then x.2.2.1 4 else if what = 3 then x.2.2.1 5 else x.1) rfl ?_
      have hτ : RM (setI σ 0 0 0) (aI a 0 0 0) u := RM_I h (by decide)
      rw [Option.bind_some, show (setI σ 0 0 0).1 0 0 = 0 from setI_e]
      have g : ∀ f, f ≠ 0 → ∀ i, (setI σ 0 0 0).1 f i = σ.1 f i := fun f hf i => setI_f hf
      refine WP_if c0_le (fun _ => ?_) (fun y => absurd (by decide) y)
      refine WP_if c0_ne (fun w0 => ?_) (fun w0 => ?_)
      · rw [if_neg w0]
        refine WP_if c2_ne (fun w1 => ?_) (fun w1 => ?_)
        · rw [if_neg w1]
          refine WP_if c2_ne (fun w2 => ?_) (fun w2 => ?_)
          · rw [if_neg w2]
            refine WP_if c2_ne (fun w3 => ?_) (fun w3 => ?_)
            · rw [if_neg w3]
              refine WP_ld rfl 128 (by decide +kernel) j1 (WP_some ⟨hτ, ?_⟩)
              rw [g 18 (by decide)]
              exact j6
            · rw [if_pos (Classical.not_not.mp w3)]
              refine WP_ld rfl 354 (by decide +kernel) (by omega) (WP_some ⟨hτ, ?_⟩)
              rw [g 9 (by decide)]
              exact y4
          · rw [if_pos (Classical.not_not.mp w2)]
            refine WP_ld rfl 354 (by decide +kernel) (by omega) (WP_some ⟨hτ, ?_⟩)
            rw [g 8 (by decide)]
            exact y3
        · rw [if_pos (Classical.not_not.mp w1)]
          refine WP_ld rfl 354 (by decide +kernel) (by omega) (WP_some ⟨hτ, ?_⟩)
          rw [g 7 (by decide)]
          exact y2
      · rw [if_pos (Classical.not_not.mp w0)]
        refine WP_ld rfl 354 (by decide +kernel) (by omega) (WP_some ⟨hτ, ?_⟩)
        rw [g 6 (by decide)]
        exact y1
    · have q3 := b_false q3
      refine WP_in (lo' := 0) (hi' := 4) (by decide) (by decide) (fun y => by rw [q3] at y; exact absurd y (by decide)) (fun _ => ?_)
      refine WP_if c0_ne (fun y => absurd rfl y) (fun _ => ?_)
      rw [if_pos (Or.inr q3)]
      exact thr 0 _
theorem F_meddle {F : Nat} {σ : RS} {a : AA} {u : AU} {k what n : Int32} (hF : 400 ≤ F) (h : RM σ a u) (ev : (aWay a).Pairwise (fun x y => x.1 < y.1 ∨ (x.1 = y.1 ∧ x.2.1 < y.2.1))) : FW (m_meddle F σ k what n) (A_meddle (aI a 0 0 0) k what n) u := by
  unfold A_meddle m_meddle m_meddle_b0 m_meddle_b29
  have thr : ∀ v, FW (m_meddle_b30 F σ 1 k what n) (aI a 0 0 0, 1, v) u := by
    intro v
    unfold m_meddle_b30 m_meddle_b49
    refine FW_no (by decide) (WP_th h (fun τ hτ e0 => ?_))
    rw [e0]
    refine WP_if c0_le (fun y => absurd y (by decide)) (fun _ => ?_)
    refine WP_if c0_ge (fun y => absurd y (by decide)) (fun _ => ?_)
    rw [if_pos (Or.inl rfl)]
    exact WP_some hτ
  by_cases q1 : aInR what 0 2 = true
  · refine WP_in (lo' := 0) (hi' := 2) (by decide) (by decide) (fun _ => ?_) (fun y => by rw [q1] at y; exact absurd y (by decide))
    refine WP_if c0_eq (fun y => absurd (show (1 : Int32) = 0 from y) (by decide)) (fun _ => ?_)
    by_cases q3 : aInR n 0 1000 = true
    · refine WP_in (lo' := 0) (hi' := 1000) (by decide) (by decide) (fun _ => ?_) (fun y => by rw [q3] at y; exact absurd y (by decide))
      refine WP_if c0_eq (fun y => absurd (show (1 : Int32) = 0 from y) (by decide)) (fun _ => ?_)
      rw [q1, q3]
      simp only [Bool.not_true, Bool.or_self, Bool.false_eq_true, if_false]
      unfold m_meddle_b30
      refine WP_th h (fun τ hτ e0 => ?_)
      rw [e0]
      refine WP_if c0_le (fun _ => ?_) (fun y => absurd (by decide) y)
      have ev' : (aWay (aI a 0 0 0)).Pairwise (fun x y => x.1 < y.1 ∨ (x.1 = y.1 ∧ x.2.1 < y.2.1)) := ev
      have z00 : aS (aI a 0 0 0) 0 0 = 0 := aS_00
      generalize aI a 0 0 0 = b at hτ ev' z00
      refine WP_call (M_kth (by omega) hτ ev') (fun p hp => ?_)
      obtain ⟨p1, p2⟩ := hp
      rw [p1]
      unfold m_meddle_b49 m_meddle_b167
      rcases p2 with ⟨e1, hk⟩ | ⟨j, x, j1, j2, j3, j4, j5, j6, j7, j8⟩
      · rw [e1]
        have go : FW (if xc0 .ge (-1 : Int32) = true then
            (if xc0 .ne what = true then
              (if xc2 .ne what 1 = true then
                (rld τ 18 (-1)).bind fun x11 => (rst τ 18 (-1) (x11 + n)).bind fun σ13 => (rst σ13 19 (-1) (σ13.1 2 0)).bind fun σ15 => (some (setI σ15 2 0 (σ15.1 2 0 + 1))).bind fun σ17 => if (1 : Int32) = 0 ∨ (1 : Int32) = 1 then some ((1 : Int32), σ17) else none
              else (rld τ 6 (-1)).bind fun x19 => (rld τ 7 (-1)).bind fun x21 => (rld τ 23 (16 * x19 + x21)).bind fun x23 => (m_fly F τ (-1) (τ.1 1 0 + x23)).bind fun p25 => if (1 : Int32) = 0 ∨ (1 : Int32) = 1 then some ((1 : Int32), p25) else none)
            else (rst τ 17 (-1) (0 &&& 1)).bind fun σ27 => (some (setI σ27 20 0 (σ27.1 20 0 - 1))).bind fun σ29 => (some (setI σ29 22 0 (σ29.1 22 0 + 1))).bind fun σ31 => if (1 : Int32) = 0 ∨ (1 : Int32) = 1 then some ((1 : Int32), σ31) else none)
          else if (0 : Int32) = 0 ∨ (0 : Int32) = 1 then some ((0 : Int32), τ) else none) (b, 0, 0) u := by
          refine FW_ok z00 (WP_if c0_ge (fun y => absurd y (by decide)) (fun _ => ?_))
          rw [if_pos (Or.inl rfl)]
          exact WP_some ⟨hτ, rfl⟩
        by_cases q : k < 0
        · rw [if_pos q]
          exact go
        · rw [if_neg q]
          rcases hk with z | z
          · exact absurd z q
          · rw [z]
            exact go
      · rw [j2, if_neg j3, j4]
        dsimp only
        refine WP_if c0_ge (fun _ => ?_) (fun y => absurd (by rw [show (0 : Int32) = Int32.ofNat 0 from rfl, i_ltn (by omega) (by omega)]; omega) y)
        refine WP_if c0_ne (fun w0 => ?_) (fun w0 => ?_)
        · rw [if_neg w0]
          refine WP_if c2_ne (fun w1 => ?_) (fun w1 => ?_)
          · rw [if_neg w1]
            refine FW_ok (by exact z00) ?_
            refine WP_ld rfl 128 (by decide +kernel) j1 ?_
            refine WP_st rfl 128 (by decide +kernel) j1 ?_
            refine WP_st rfl 128 (by decide +kernel) j1 ?_
            have r := RM_later (t := x.1 + n) hτ ev' j1 j5 j6 j7 j4
            rw [j6]
            have e2 : (setI τ 18 j (x.1 + n)).1 2 0 = τ.1 2 0 := setI_f (by decide)
            rw [e2]
            have e3 : (setI (setI τ 18 j (x.1 + n)) 19 j (τ.1 2 0)).1 2 0 = τ.1 2 0 := by rw [setI_f (by decide), setI_f (by decide)]
            show WP (if (1 : Int32) = 0 ∨ (1 : Int32) = 1 then some ((1 : Int32), setI (setI (setI τ 18 j (x.1 + n)) 19 j (τ.1 2 0)) 2 0 ((setI (setI τ 18 j (x.1 + n)) 19 j (τ.1 2 0)).1 2 0 + 1)) else none) _
            rw [e3, if_pos (Or.inr rfl)]
            exact WP_some ⟨r, rfl⟩
          · rw [if_pos (Classical.not_not.mp w1)]
            refine FW_ok (by rw [AFr_fly.1 0 (by decide)]; exact z00) ?_
            obtain ⟨y1, y2, y3, y4, _, _, yw, _⟩ := id j8
            refine WP_ld rfl 354 (by decide +kernel) (by omega) ?_
            refine WP_ld rfl 354 (by decide +kernel) (by omega) ?_
            rw [y1, y2]
            have en : ∀ v : Int32, (aInR v 0 6 = true ∨ aInR v 8 15 = true) → ∃ q, v = Int32.ofNat q ∧ q < 16 := fun v hv => end_nat (by
              unfold aEnd
              exact Bool.or_eq_true_iff.mpr hv)
            obtain ⟨p, ep, hp⟩ := en _ yw.1
            obtain ⟨r, er, hr⟩ := en _ yw.2
            rw [ep, er, show (16 : Int32) * Int32.ofNat p + Int32.ofNat r = Int32.ofNat (16 * p + r) from i_ma (c := 16), i_cl (by omega)]
            refine WP_ld rfl 256 (by decide +kernel) (by omega) ?_
            have e23 : τ.1 23 (16 * p + r) = aS b 23 (16 * p + r) := hτ.1.1 23 (by decide) _ (by rw [show rlen 23 = 256 by decide +kernel]; omega)
            have e1 : τ.1 1 0 = aNow b := RM_0 hτ (by decide)
            rw [e23, e1]
            refine WP_call (M_fly (by omega) hτ (by omega) j8 (Or.inr (by rw [j5]; decide))) (fun p25 h25 => ?_)
            rw [if_pos (Or.inr rfl)]
            exact WP_some ⟨h25.1, rfl⟩
        · rw [if_pos (Classical.not_not.mp w0)]
          refine FW_ok (by exact z00) ?_
          refine WP_st rfl 128 (by decide +kernel) j1 ?_
          rw [show (0 : Int32) &&& 1 = 0 from rfl]
          have e20 : (setI τ 17 j 0).1 20 0 = τ.1 20 0 := setI_f (by decide)
          show WP ((some (setI (setI τ 17 j 0) 20 0 ((setI τ 17 j 0).1 20 0 - 1))).bind _) _
          rw [e20]
          have r := RM_lose hτ ev' j1 j5 j6 j7 j4
          generalize setI (setI τ 17 j 0) 20 0 (τ.1 20 0 - 1) = τ2 at r
          rw [Option.bind_some]
          rw [show τ2.1 22 0 = aS (aWayS b ((aWay b).eraseIdx k.toNatClampNeg)) 22 0 from RM_0 r (by decide)]
          refine WP_w0 r (by decide) (fun τ3 h3 => ?_)
          rw [if_pos (Or.inr rfl)]
          exact WP_some ⟨h3, rfl⟩
    · have q3 := b_false q3
      refine WP_in (lo' := 0) (hi' := 1000) (by decide) (by decide) (fun y => by rw [q3] at y; exact absurd y (by decide)) (fun _ => ?_)
      refine WP_if c0_eq (fun _ => ?_) (fun y => absurd rfl y)
      rw [q1, q3]
      simp only [Bool.not_true, Bool.not_false, Bool.or_true, if_true]
      exact thr 0
  · have q1 := b_false q1
    refine WP_in (lo' := 0) (hi' := 2) (by decide) (by decide) (fun y => by rw [q1] at y; exact absurd y (by decide)) (fun _ => ?_)
    refine WP_if c0_eq (fun _ => ?_) (fun y => absurd rfl y)
    rw [q1]
    simp only [Bool.not_false, Bool.true_or, if_true]
    exact thr 0
