theorem RcS_le {K : List AK} {σ τ τ2 : RS} {a : AA} {s b : Nat} {done : List Nat} {L L2 : List (AE × Int32)} (h : RcS K σ a s b τ done L) (hs : SLe s τ τ2) (h7 : Lgs K τ2 s b L2) (h8 : ∀ g ∈ done, ∀ k i, k < wlN a s g → i < L2.length → b + 1 + i = fsN a s g + k → L2.getD i (aE0, 0) = ((aFc a s g).2.1.getD k aE0, Int32.ofNat (ofs K (aFc a s g).2.1 k))) : RcS K σ a s b τ2 done L2 := by
  obtain ⟨r1, r2, r3, r4, r5, r6, r7, r8⟩ := h
  have e : ∀ f, ¬ (59 ≤ f ∧ f ≤ 62) → ∀ i, τ2.1 f i = τ.1 f i := fun f hf i => hs.1 f i (fun z => hf ⟨z.1, z.2.1⟩)
  refine ⟨fun f i q => (hs.1 f i (fun z => q (Or.inl z))).trans (r1 f i q), fun f i q => (hs.2 f i q).trans (r2 f i q), by rw [e 49 (by omega)]; exact r3, r4, fun i hi => by rw [e 50 (by omega), e 51 (by omega)]; exact r5 i hi, fun g hg => by rw [e 37 (by omega), e 44 (by omega)]; exact r6 g hg, h7, h8⟩
theorem rcO_app {f i s g : Nat} {done : List Nat} (h : ¬ rcO f i s (done ++ [g])) : ¬ rcO f i s done := by
  intro z
  refine h ?_
  unfold rcO at z ⊢
  rcases z with z | z | z | ⟨z, x, hx, ex⟩ | ⟨z, x, hx, ex⟩
  · exact Or.inl z
  · exact Or.inr (Or.inl z)
  · exact Or.inr (Or.inr (Or.inl z))
  · exact Or.inr (Or.inr (Or.inr (Or.inl ⟨z, x, List.mem_append_left _ hx, ex⟩)))
  · exact Or.inr (Or.inr (Or.inr (Or.inr ⟨z, x, List.mem_append_left _ hx, ex⟩)))
theorem ofs_25 {K : List AK} {es : List AE} : ∀ i, i ≤ es.length → 24 + 25 * i ≤ ofs K es i := by
  intro i
  induction i with
  | zero => exact fun _ => Nat.le_refl 24
  | succ i ih =>
    intro h
    have h1 := ih (by omega)
    have h2 := ofs_s (K := K) (es := es) (i := i) (by omega)
    omega
/-- a segment is read and joins the others -/
theorem chain_file {F n : Nat} {K : List AK} {σ τ : RS} {a : AA} {s b f n0 : Nat} {done : List Nat} {L : List (AE × Int32)} {T t0 : Int32} {m0 z0 : Bool} {Q : RS → Prop} (hF : 1000 ≤ F) (hs : s < 7) (hk : sgOK K σ a s) (hr : RcS K σ a s b τ done L) (hd11 : done.length ≤ 11) (hf4 : 4 ≤ f) (hf16 : f < 16) (hseg : aIsSeg a s f = true) (hnew : f ∉ done) (hn0 : n0 + 1 = fsN a s f) (hle : ∀ g ∈ done, fsN a s g + wlN a s g ≤ n0 + 1)
    (e55 : σ.1 55 s = Int32.ofNat b) (e57 : σ.1 57 s = T) (hb : b < 1073741824) (hL : L.length = n0 - b) (hmx : n0 + wlN a s f ≤ b + 300)
    (fin : ∀ τ2, RcS K σ a s b τ2 (done ++ [f]) (scL K (aFc a s f) b n0 L (wlN a s f)) → WP (m_recoverLog_b196 F n τ2 (Int32.ofNat s) (if wlN a s f = 0 then -1 else nxF a s (Int32.ofNat (n0 + wlN a s f) + 1) (scT (aFc a s f) t0 (wlN a s f))) (Int32.ofNat (n0 + wlN a s f)) (scT (aFc a s f) t0 (wlN a s f)) (aB (scM (aFc a s f) T b n0 m0 (wlN a s f))) (aB (scZ b n0 z0 (wlN a s f)))) Q) :
    WP (m_recoverLog_b196 F (n + 1) τ (Int32.ofNat s) (Int32.ofNat f) (Int32.ofNat n0) t0 (aB m0) (aB z0)) Q := by
  obtain ⟨k1, k2, k3, k4, k5⟩ := hk f hf4 hf16
  obtain ⟨⟨S, hS⟩, k6, k7, k8⟩ := k5 hseg
  obtain ⟨r1, r2, r3, r4, r5, r6, r7, r8⟩ := id hr
  have hplace : ∀ g, 4 ≤ g → g < 16 → 2 * (16 * s + g) < 224 := fun g h1 h2 => by omega
  unfold m_recoverLog_b196
  refine WP_if c0_lt (fun y => absurd y (i_nn (by omega))) (fun _ => ?_)
  refine WP_eq m_fileOf_n ?_
  refine WP_ld rfl 7 (by decide +kernel) hs ?_
  rw [r3, show (12 : Int32) * Int32.ofNat s + Int32.ofNat done.length = Int32.ofNat (12 * s + done.length) from i_ma (c := 12)]
  refine WP_st rfl 84 (by decide +kernel) (by omega) ?_
  refine WP_ld rfl 7 (by decide +kernel) hs ?_
  rw [setI_f (by decide), r3, show (12 : Int32) * Int32.ofNat s + Int32.ofNat done.length = Int32.ofNat (12 * s + done.length) from i_ma (c := 12)]
  refine WP_st rfl 84 (by decide +kernel) (by omega) ?_
  refine WP_ld rfl 7 (by decide +kernel) hs ?_
  rw [setI_f (by decide), setI_f (by decide), r3, i_s, i_s]
  refine WP_st rfl 7 (by decide +kernel) hs ?_
  -- the memory with the segment noted
  have q37 : τ.1 37 (2 * (16 * s + f)) = Int32.ofNat S := by
    rw [r1 37 _ (by
      unfold rcO
      rintro (y | y | y | ⟨_, x, hx, ex⟩ | y)
      · omega
      · omega
      · omega
      · have : x = f := by omega
        exact hnew (this ▸ hx)
      · omega), k4]
    exact hS.2.2.2.1
  have q36 : τ.2 36 = σ.2 36 := by
    funext j
    exact r2 36 j (by omega)
  have q55 : τ.1 55 s = Int32.ofNat b := by rw [r1 55 s (by unfold rcO; omega)]; exact e55
  have q57 : τ.1 57 s = T := by rw [r1 57 s (by unfold rcO; omega)]; exact e57
  have efs : Int32.ofNat (n0 + 1) = (aFc a s f).1 2 := by rw [k6, hn0]
  have g1 : ∀ g i, g ≠ 49 → g ≠ 50 → g ≠ 51 → (setI (setI (setI τ 50 (12 * s + done.length) (Int32.ofNat f)) 51 (12 * s + done.length) (Int32.ofNat (n0 + 1))) 49 s (Int32.ofNat (done.length + 1))).1 g i = τ.1 g i := by
    intro g i g49 g50 g51
    rw [setI_f g49, setI_f g51, setI_f g50]
  have v49 : (setI (setI (setI τ 50 (12 * s + done.length) (Int32.ofNat f)) 51 (12 * s + done.length) (Int32.ofNat (n0 + 1))) 49 s (Int32.ofNat (done.length + 1))).1 49 s = Int32.ofNat (done.length + 1) := setI_e
  have v50 : ∀ i, (setI (setI (setI τ 50 (12 * s + done.length) (Int32.ofNat f)) 51 (12 * s + done.length) (Int32.ofNat (n0 + 1))) 49 s (Int32.ofNat (done.length + 1))).1 50 i = if i = 12 * s + done.length then Int32.ofNat f else τ.1 50 i := by
    intro i
    rw [setI_f (by decide), setI_f (by decide)]
    by_cases z : i = 12 * s + done.length
    · rw [if_pos z, z, setI_e]
    · rw [if_neg z, setI_i z]
  have v51 : ∀ i, (setI (setI (setI τ 50 (12 * s + done.length) (Int32.ofNat f)) 51 (12 * s + done.length) (Int32.ofNat (n0 + 1))) 49 s (Int32.ofNat (done.length + 1))).1 51 i = if i = 12 * s + done.length then Int32.ofNat (n0 + 1) else τ.1 51 i := by
    intro i
    rw [setI_f (by decide)]
    by_cases z : i = 12 * s + done.length
    · rw [if_pos z, z, setI_e]
    · rw [if_neg z, setI_i z, setI_f (by decide)]
  have v49o : ∀ i, i ≠ s → (setI (setI (setI τ 50 (12 * s + done.length) (Int32.ofNat f)) 51 (12 * s + done.length) (Int32.ofNat (n0 + 1))) 49 s (Int32.ofNat (done.length + 1))).1 49 i = τ.1 49 i := by
    intro i hi
    rw [setI_i hi, setI_f (by decide), setI_f (by decide)]
  have v2 : (setI (setI (setI τ 50 (12 * s + done.length) (Int32.ofNat f)) 51 (12 * s + done.length) (Int32.ofNat (n0 + 1))) 49 s (Int32.ofNat (done.length + 1))).2 = τ.2 := rfl
  generalize setI (setI (setI τ 50 (12 * s + done.length) (Int32.ofNat f)) 51 (12 * s + done.length) (Int32.ofNat (n0 + 1))) 49 s (Int32.ofNat (done.length + 1)) = τ1 at g1 v49 v50 v51 v49o v2
  have hlg1 : Lgs K τ1 s b L := by
    intro j hj
    obtain ⟨x1, x2, x3, x4, x5, x6, x7⟩ := r7 j hj
    refine ⟨by rw [g1 59 _ (by decide) (by decide) (by decide)]; exact x1, by rw [g1 60 _ (by decide) (by decide) (by decide)]; exact x2, by rw [g1 61 _ (by decide) (by decide) (by decide)]; exact x3, x4, x5, by rw [v2]; exact x6, by rw [g1 62 _ (by decide) (by decide) (by decide)]; exact x7⟩
  have hmxw : n0 + (aWhole (aFc a s f)).length ≤ b + 300 := hmx
  have main := seg_scan (F := F) (K196 := m_recoverLog_b196 F n) (t0 := t0) (m0 := m0) (z0 := z0) (T := T) (Q := Q) (by omega) hs hS (by rw [v2]; exact q36) (by rw [g1 37 _ (by decide) (by decide) (by decide)]; exact q37) (by rw [g1 55 _ (by decide) (by decide) (by decide)]; exact q55) (by rw [g1 57 _ (by decide) (by decide) (by decide)]; exact q57) hb (by omega) hL hmxw hlg1 (fun τ2 hle2 hlg2 => ?_) F 0 τ1 (by
      obtain ⟨w1, w2, w3, w4⟩ := seg_whole hS
      have := ofs_25 (K := K) (es := (aFc a s f).2.1) (aWhole (aFc a s f)).length w1
      have := hS.2.2.1
      omega) (Nat.zero_le _) SLe_r (by
      have : scL K (aFc a s f) b n0 L 0 = L := by
        unfold scL
        rw [List.range_zero, List.map_nil, List.drop_nil, List.append_nil]
      rw [this]
      exact hlg1)
  · have e1 : scT (aFc a s f) t0 0 = t0 := rfl
    have e2 : scM (aFc a s f) T b n0 m0 0 = m0 := if_neg (by omega)
    have e3 : scZ b n0 z0 0 = z0 := by
      unfold scZ
      rw [decide_eq_false (by omega), Bool.or_false]
    have e4 : ofs K (aFc a s f).2.1 0 = 24 := rfl
    rw [e1, e2, e3, e4, Nat.add_zero] at main
    exact main
  · -- behind its last whole frame
    have w37 : τ2.1 37 (2 * (16 * s + f)) = Int32.ofNat S := by rw [hle2.1 37 _ (by omega), g1 37 _ (by decide) (by decide) (by decide)]; exact q37
    obtain ⟨w1, w2, w3, w4⟩ := seg_whole hS
    have hS14 := hS.2.2.1
    have hW : (aWhole (aFc a s f)).length = wlN a s f := rfl
    have hO : ofs K (aFc a s f).2.1 (wlN a s f) = ofW K a s f := rfl
    rw [hW] at hlg2 w2 ⊢
    rw [hO] at w2 ⊢
    have hLl := scL_len (K := K) (G := aFc a s f) (i := wlN a s f) hL
    -- the entries' places
    have h8 : ∀ g ∈ done ++ [f], ∀ k i, k < wlN a s g → i < (scL K (aFc a s f) b n0 L (wlN a s f)).length → b + 1 + i = fsN a s g + k → (scL K (aFc a s f) b n0 L (wlN a s f)).getD i (aE0, 0) = ((aFc a s g).2.1.getD k aE0, Int32.ofNat (ofs K (aFc a s g).2.1 k)) := by
      intro g hg k i hk2 hi he
      rcases List.mem_append.mp hg with y | y
      · have hlt : i < L.length := by
          have := hle g y
          omega
        unfold scL
        rw [List.getD_eq_getElem?_getD, List.getElem?_append_left hlt, ← List.getD_eq_getElem?_getD]
        exact r8 g y k i hk2 hlt he
      · rw [List.mem_singleton] at y
        subst y
        unfold scL
        rw [List.getD_eq_getElem?_getD, List.getElem?_append_right (by omega), List.getElem?_drop, List.getElem?_map, List.getElem?_range (by omega)]
        have : b - n0 + (i - L.length) = k := by omega
        rw [this]
        rfl
    have done1 : ∀ τ3 : RS, (τ3 = τ2 ∧ ofW K a s f = S) ∨ (τ3 = setI (setI τ2 37 (2 * (16 * s + f)) (Int32.ofNat (ofW K a s f))) 44 (16 * s + f) 1) → RcS K σ a s b τ3 (done ++ [f]) (scL K (aFc a s f) b n0 L (wlN a s f)) := by
      intro τ3 ht
      have h37 : τ3.1 37 (2 * (16 * s + f)) = Int32.ofNat (ofW K a s f) := by
        rcases ht with ⟨ht, y⟩ | ht
        · rw [ht, w37, y]
        · rw [ht, setI_f (by decide), setI_e]
      have h44 : τ3.1 44 (16 * s + f) = 1 ∨ (τ3.1 44 (16 * s + f) = σ.1 44 (16 * s + f) ∧ τ3.1 37 (2 * (16 * s + f)) = σ.1 37 (2 * (16 * s + f))) := by
        rcases ht with ⟨ht, y⟩ | ht
        · right
          rw [ht]
          refine ⟨?_, ?_⟩
          · rw [hle2.1 44 _ (by omega), g1 44 _ (by decide) (by decide) (by decide)]
            exact r1 44 _ (by
              unfold rcO
              rintro (y | y | y | y | ⟨_, x, hx, ex⟩)
              · omega
              · omega
              · omega
              · omega
              · have : x = f := by omega
                exact hnew (this ▸ hx))
          · rw [w37, k4]
            exact hS.2.2.2.1.symm
        · left
          rw [ht, setI_e]
      have ho : ∀ g i, ¬ (g = 37 ∧ i = 2 * (16 * s + f)) → ¬ (g = 44 ∧ i = 16 * s + f) → τ3.1 g i = τ2.1 g i := by
        intro g i y1 y2
        rcases ht with ⟨ht, _⟩ | ht
        · rw [ht]
        · rw [ht]
          exact (if_neg y2).trans (if_neg y1)
      have h2 : τ3.2 = τ2.2 := by
        rcases ht with ⟨ht, _⟩ | ht <;> rw [ht]
        rfl
      refine ⟨fun g i q => ?_, fun g i q => ?_, ?_, by rw [List.length_append]; show done.length + 1 ≤ 12; omega, fun i hi => ?_, fun g hg => ?_, ?_, h8⟩
      · have q' := rcO_app q
        unfold rcO at q
        rw [ho g i (fun z => q (Or.inr (Or.inr (Or.inr (Or.inl ⟨z.1, f, by simp, z.2⟩))))) (fun z => q (Or.inr (Or.inr (Or.inr (Or.inr ⟨z.1, f, by simp, z.2⟩))))), hle2.1 g i (fun z => q (Or.inl z))]
        rw [← r1 g i q']
        by_cases y49 : g = 49
        · rw [y49]
          exact v49o i (fun z => q (Or.inr (Or.inr (Or.inl ⟨y49, z⟩))))
        · by_cases y50 : g = 50
          · rw [y50, v50, if_neg (fun z => q (Or.inr (Or.inl ⟨Or.inl y50, by omega⟩)))]
          · by_cases y51 : g = 51
            · rw [y51, v51, if_neg (fun z => q (Or.inr (Or.inl ⟨Or.inr y51, by omega⟩)))]
            · exact g1 g i y49 y50 y51
      · rw [h2, hle2.2 g i q, v2]
        exact r2 g i q
      · rw [ho 49 s (by omega) (by omega), hle2.1 49 s (by omega), v49, List.length_append]
        rfl
      · rw [ho 50 _ (by omega) (by omega), ho 51 _ (by omega) (by omega), hle2.1 50 _ (by omega), hle2.1 51 _ (by omega), v50, v51, getD_app]
        by_cases z : i < done.length
        · rw [if_neg (show ¬ 12 * s + i = 12 * s + done.length by omega), if_neg (show ¬ 12 * s + i = 12 * s + done.length by omega), if_pos z]
          exact r5 i z
        · rw [List.length_append] at hi
          have e : i = done.length := by
            have : i < done.length + 1 := hi
            omega
          rw [e, if_pos rfl, if_pos rfl, if_neg (Nat.lt_irrefl _), if_pos rfl]
          exact ⟨rfl, efs⟩
      · rcases List.mem_append.mp hg with y | y
        · obtain ⟨x1, x2, x3, x4, x5⟩ := r6 g y
          have ng : g ≠ f := fun z => hnew (z ▸ y)
          rw [ho 37 _ (by omega) (by omega), ho 44 _ (by omega) (by omega), hle2.1 37 _ (by omega), hle2.1 44 _ (by omega), g1 37 _ (by decide) (by decide) (by decide), g1 44 _ (by decide) (by decide) (by decide)]
          exact ⟨x1, x2, x3, x4, x5⟩
        · rw [List.mem_singleton] at y
          subst y
          exact ⟨hf4, hf16, hseg, h37, h44⟩
      · intro j hj
        obtain ⟨x1, x2, x3, x4, x5, x6, x7⟩ := hlg2 j hj
        refine ⟨by rw [ho 59 _ (by omega) (by omega)]; exact x1, by rw [ho 60 _ (by omega) (by omega)]; exact x2, by rw [ho 61 _ (by omega) (by omega)]; exact x3, x4, x5, by rw [h2]; exact x6, by rw [ho 62 _ (by omega) (by omega)]; exact x7⟩
    have fin2 : ∀ τ3, RcS K σ a s b τ3 (done ++ [f]) (scL K (aFc a s f) b n0 L (wlN a s f)) → WP (m_recoverLog_b520 F (m_recoverLog_b196 F n) τ3 (Int32.ofNat s) (Int32.ofNat (n0 + wlN a s f)) (scT (aFc a s f) t0 (wlN a s f)) (aB (scM (aFc a s f) T b n0 m0 (wlN a s f))) (aB (scZ b n0 z0 (wlN a s f))) (Int32.ofNat n0)) Q := by
      intro τ3 h3
      have go := fin τ3 h3
      unfold m_recoverLog_b520 m_recoverLog_b538
      refine WP_if (p := wlN a s f ≠ 0) (by
        rw [c2_ne, i_eqi (by omega) (by omega)]
        omega) (fun y => ?_) (fun y => ?_)
      · rw [if_neg y] at go
        refine WP_eq (M_follower (by omega) hs hk h3) ?_
        exact go
      · rw [if_pos (Classical.not_not.mp y)] at go
        exact go
    unfold m_recoverLog_b489
    refine WP_ld rfl 224 (by decide +kernel) (hplace f hf4 hf16) ?_
    rw [w37]
    refine WP_if (i_lei (by omega) (by omega)) (fun y => ?_) (fun y => ?_)
    · exact fin2 τ2 (done1 τ2 (Or.inl ⟨rfl, by omega⟩))
    · refine WP_st rfl 224 (by decide +kernel) (hplace f hf4 hf16) ?_
      rw [if_neg (show ¬ (2 : Int32) = 0 by decide), i_half (by omega)]
      refine WP_st rfl 112 (by decide +kernel) (by omega) ?_
      rw [show (1 : Int32) &&& 1 = 1 from rfl]
      exact fin2 _ (done1 _ (Or.inr rfl))
