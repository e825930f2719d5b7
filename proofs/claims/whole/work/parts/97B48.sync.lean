/-! the disk is written, the letters that waited go -/
theorem RM_wt0 {σ : RS} {a : AA} {u : AU} {s : Nat} (h : RM σ a u) : RM (setI σ 85 s 0) (aWtS a s []) u := by
  have hF : Fr [85] [] σ (setI σ 85 s 0) := Fr_I
  have hwt : ∀ t, t < 7 → RWt (aAk a) (setI σ 85 s 0) t (aWt (aWtS a s []) t) := by
    intro t ht
    show RWt (aAk a) (setI σ 85 s 0) t (if t = s then [] else aWt a t)
    by_cases q : t = s
    · rw [if_pos q, q]
      exact ⟨setI_e, Nat.zero_le _, fun i hi => absurd hi (Nat.not_lt_zero _)⟩
    · rw [if_neg q]
      obtain ⟨w1, w2, w3⟩ := h.2.2.1 t ht
      exact ⟨by rw [setI_i q]; exact w1, w2, fun i hi => RLt_fr hF (by decide) (w3 i hi)⟩
  exact ⟨RSc_fr hF (by decide) h.1, RWay_fr hF (by decide) h.2.1, hwt, fun l hl => RLt_fr hF (by decide) (h.2.2.2.1 l hl), fun s hs => RLog_fr hF (by decide) (h.2.2.2.2.1 s hs), fun s hs => RDk_fr hF (by decide) (h.2.2.2.2.2.1 s hs), fun s hs => RSl_fr hF (by decide) (h.2.2.2.2.2.2.1 s hs), fun s hs hu => RCh_fr hF (by decide) (h.2.2.2.2.2.2.2.1 s hs hu), fun s hs hu => RAt_fr hF (by decide) (h.2.2.2.2.2.2.2.2.1 s hs hu), fun s hs => RMc_fr hF (by decide) (h.2.2.2.2.2.2.2.2.2.1 s hs), fun s hs => RSh_fr hF (by decide) (h.2.2.2.2.2.2.2.2.2.2.1 s hs), fun s hs => RPc_fr hF (by decide) (h.2.2.2.2.2.2.2.2.2.2.2.1 s hs), fun s hs => RRq_fr hF (by decide) (h.2.2.2.2.2.2.2.2.2.2.2.2.1 s hs), RAk_fr hF (by decide) h.2.2.2.2.2.2.2.2.2.2.2.2.2.1, fun s hs => RWn_fr hF (by decide) (h.2.2.2.2.2.2.2.2.2.2.2.2.2.2.1 s hs), RTp_fr hF (by decide) h.2.2.2.2.2.2.2.2.2.2.2.2.2.2.2.1, RRe_fr hF (by decide) h.2.2.2.2.2.2.2.2.2.2.2.2.2.2.2.2.1, fun s hs => RDn_fr hF (by decide) (h.2.2.2.2.2.2.2.2.2.2.2.2.2.2.2.2.2.1 s hs), RSum_fr hF (by decide) h.2.2.2.2.2.2.2.2.2.2.2.2.2.2.2.2.2.2.1, h.2.2.2.2.2.2.2.2.2.2.2.2.2.2.2.2.2.2.2.1, h.2.2.2.2.2.2.2.2.2.2.2.2.2.2.2.2.2.2.2.2.1, h.2.2.2.2.2.2.2.2.2.2.2.2.2.2.2.2.2.2.2.2.2.1, h.2.2.2.2.2.2.2.2.2.2.2.2.2.2.2.2.2.2.2.2.2.2.1, h.2.2.2.2.2.2.2.2.2.2.2.2.2.2.2.2.2.2.2.2.2.2.2⟩
theorem AFr_sendAllOut : ∀ (l : List AL) (a : AA), AFr [2, 20, 21, 22] [0] a (A_sendAllOut a l) := by
  intro l
  induction l with
  | nil => exact fun a => AFr_w AFr_r (by decide) (by decide)
  | cons x r ih => exact fun a => AFr_w (AFr_t AFr_sendOut (ih _)) (by decide) (by decide)
theorem AFr_syncFiles {a : AA} {s : Nat} : ∀ n, AFr [43] [7] a (aSyncFiles a s n) := by
  intro n
  induction n with
  | zero => exact AFr_w AFr_r (by decide) (by decide)
  | succ n ih =>
    have h1 : ∀ (b : AA) (f : Nat), AFr [43] [7] b (aSyncFile b s f) := fun b f => AFr_w (AFr_t AFr_fk AFr_I) (by decide) (by decide)
    exact AFr_w (AFr_t ih (h1 _ _)) (by decide) (by decide)
theorem AFr_syncAll {a : AA} {s : Nat} : AFr [43, 46, 71] [7] a (A_syncAll a s) := AFr_w (AFr_t (AFr_t (AFr_syncFiles 16) AFr_I) AFr_I) (by decide) (by decide)
def sy1 (a : AA) (s : Nat) : AA := let a1 := A_sendAllOut (aWtS (A_syncAll a s) s []) (aWt a s); aI a1 77 s (aLast a1 s)
theorem AFr_sy1 {a : AA} {s : Nat} : AFr [43, 46, 71, 2, 20, 21, 22, 77] [7, 1, 0] a (sy1 a s) := AFr_w (AFr_t (AFr_t (AFr_t AFr_syncAll AFr_wt) (AFr_sendAllOut _ _)) AFr_I) (by decide) (by decide)
def sy2 (a : AA) (s : Nat) : AA := aI (sy1 a s) 87 (7 * s + s) (aS (sy1 a s) 77 s)
theorem A_sync_e {a : AA} {s : Nat} : A_sync a s = if aS (sy1 a s) 73 s = 2 then
    let a3 := aI (sy1 a s) 79 s (aS (sy1 a s) 79 s ||| (1 <<< Int32.ofNat s))
    if aMaj (aS a3 65 s) (aS a3 79 s) then A_lead a3 s else a3
  else if aS (sy1 a s) 73 s = 3 then A_count (sy2 a s) s
  else sy1 a s := by
  unfold A_sync sy2 sy1
  with_reducible rfl
theorem pRoom_fr {W T : List Nat} {a b : AA} {s : Nat} (h : AFr W T a b) (h1 : sub0 [56] W = false) (h2 : sub0 [6] T = false) (h3 : sub0 [8] T = false) (hp : pRoom a s) : pRoom b s := by
  have k1 : 56 ∉ W := fun z => by
    have : sub0 [56] W = true := by
      unfold sub0
      simp [z]
    rw [this] at h1
    exact nomatch h1
  have k2 : 6 ∉ T := fun z => by
    have : sub0 [6] T = true := by
      unfold sub0
      simp [z]
    rw [this] at h2
    exact nomatch h2
  have k3 : 8 ∉ T := fun z => by
    have : sub0 [8] T = true := by
      unfold sub0
      simp [z]
    rw [this] at h3
    exact nomatch h3
  obtain ⟨p1, p2⟩ := hp
  unfold pRoom aLast
  rw [h.1 56 k1, h.2.2.2.2.2.2.2.2.2.1 k3, h.2.2.2.2.2.2.2.1 k2]
  exact ⟨p1, p2⟩
theorem sync_fin {F : Nat} {τ : RS} {a : AA} {u : AU} {s : Nat} (hF : 20000 ≤ F) (hs : s < 7) (hup : aS a 52 s = 1) (hz : u.2 s) (hz7 : u.2 (7 + s)) (hmk : u.2 (14 + s)) (hd : dRq a s) (hw : wN a < 2147483647) (hmx : (aS a 151 s).toInt < 2147483000) (hp : pRoom a s)
    (hpc : aS a 73 s = 3 → pRoom (A_apply (aI (sy2 a s) 75 s (aCommon (aS (sy2 a s) 65 s) (fun p => aS (sy2 a s) 87 (7 * s + p)) 7)) s) s) (hτ : RM τ (A_sendAllOut (aWtS (A_syncAll a s) s []) (aWt a s)) u) : WP ((rld τ 56 (Int32.ofNat s)).bind fun x2 => (rst τ 77 (Int32.ofNat s) x2).bind fun σ4 =>
      (rld σ4 73 (Int32.ofNat s)).bind fun x6 =>
      if xc2 .ne x6 ((2 : Int32)) = true then (
        (rld σ4 73 (Int32.ofNat s)).bind fun x9 =>
        if xc2 .ne x9 ((3 : Int32)) = true then (
          m_sync_b134 F  σ4
        ) else (
          (rld σ4 77 (Int32.ofNat s)).bind fun x12 =>
          (rst σ4 87 ((((7 : Int32)) * (Int32.ofNat s)) + (Int32.ofNat s)) x12).bind fun σ14 =>
          (m_count0 F σ14 (Int32.ofNat s)).bind fun p16 =>
          m_sync_b134 F  p16
        )
      ) else (
        (rld σ4 79 (Int32.ofNat s)).bind fun x18 =>
        (rst σ4 79 (Int32.ofNat s) ((x18 ||| (((1 : Int32)) <<< ((Int32.ofNat s) &&& 31))))).bind fun σ20 =>
        (rld σ20 79 (Int32.ofNat s)).bind fun x22 =>
        (m_isMajority F σ20 (Int32.ofNat s) x22).bind fun p24 =>
        if xc0 .eq p24.1 = true then (
          m_sync_b134 F  p24.2
        ) else (
          (m_lead F p24.2 (Int32.ofNat s)).bind fun p27 =>
          m_sync_b134 F  p27
        )
      )) (fun τ => RM τ (A_sync a s) u) := by
  refine WP_r7 hτ (by decide) hs ?_
  refine WP_wmk hτ (Or.inr (Or.inr rfl)) hs (fun _ k => ?_) (fun σ1 h1 => ?_)
  · unfold WMk
    rw [show ∀ (b : AA) (v : Int32), aBase (aI b 77 s v) s = aBase b s from fun _ _ => rfl, show ∀ (b : AA) (v : Int32), aLast (aI b 77 s v) s = aLast b s from fun _ _ => rfl, aS_If (by decide), aS_If (by decide), aS_I, if_pos ⟨rfl, rfl⟩]
    exact ⟨k.1, k.2.1, k.2.2.1, Int32.le_refl _⟩
  have h1 : RM σ1 (sy1 a s) u := h1
  have fr := @AFr_sy1 a s
  rw [A_sync_e]
  have e77 : aS (sy1 a s) 77 s = aLast (sy1 a s) s := by
    unfold sy1
    dsimp only
    rw [aS_I, if_pos ⟨rfl, rfl⟩]
    rfl
  refine WP_r7 h1 (by decide) hs ?_
  refine WP_if c2_ne (fun q => ?_) (fun q => ?_)
  · rw [if_neg q]
    refine WP_r7 h1 (by decide) hs ?_
    refine WP_if c2_ne (fun q2 => ?_) (fun q2 => ?_)
    · rw [if_neg q2]
      exact WP_some h1
    · have q2 := Classical.not_not.mp q2
      rw [if_pos q2]
      refine WP_r7 h1 (by decide) hs ?_
      rw [show (7 : Int32) * Int32.ofNat s + Int32.ofNat s = Int32.ofNat (7 * s + s) from i_ma]
      refine WP_wld h1 hs hs (Or.inr (Or.inl rfl)) (fun z1 z2 z3 => ⟨fun y => absurd y (by decide), fun _ => by rw [e77]; exact Int32.le_refl _, fun y => absurd y (by decide), fun y => absurd y (by decide)⟩) (fun σ2 h2 => ?_)
      have h2 : RM σ2 (sy2 a s) u := h2
      have fr2 : AFr [43, 46, 71, 2, 20, 21, 22, 77, 87] [7, 1, 0] a (sy2 a s) := AFr_w (AFr_t fr AFr_I) (by decide) (by decide)
      have r3 : aS a 73 s = 3 := by rw [← fr.1 73 (by decide)]; exact q2
      have hpc := hpc r3
      generalize sy2 a s = c at h2 fr2 hpc
      refine WP_call (M_count0 hF h2 hs ?_ hz hz7 hmk ?_ ?_ ?_ ?_ ?_) (fun p3 hp3 => WP_some hp3)
      · rw [fr2.1 52 (by decide)]; exact hup
      · rw [fr2.1 73 (by decide)]; exact r3
      · unfold dRq
        rw [fr2.2.2.2.2.2.2.2.2.2.2.1 (by decide)]
        exact hd
      · rw [wN_fr fr2 (by decide)]; exact hw
      · rw [fr2.1 151 (by decide)]; exact hmx
      · rintro b (rfl | rfl)
        · exact pRoom_fr fr2 (by decide) (by decide) (by decide) hp
        · exact hpc
  · have q := Classical.not_not.mp q
    rw [if_pos q]
    refine WP_r7 h1 (by decide) hs ?_
    refine WP_w7 h1 (by decide) (by decide) hs (fun σ2 h2 => ?_)
    rw [i_shm hs] at h2
    have fr2 : AFr [43, 46, 71, 2, 20, 21, 22, 77, 79] [7, 1, 0] a (aI (sy1 a s) 79 s (aS (sy1 a s) 79 s ||| (1 <<< Int32.ofNat s))) := AFr_w (AFr_t fr AFr_I) (by decide) (by decide)
    dsimp only
    generalize aI (sy1 a s) 79 s (aS (sy1 a s) 79 s ||| (1 <<< Int32.ofNat s)) = c at h2 fr2
    refine WP_r7 h2 (by decide) hs ?_
    refine WP_eq (M_isMajority (by omega) h2 hs) ?_
    cases hm : aMaj (aS c 65 s) (aS c 79 s) with
    | false =>
      rw [if_neg (show ¬ false = true by decide)]
      refine WP_if c0_eq (fun _ => ?_) (fun y => absurd rfl y)
      exact WP_some h2
    | true =>
      rw [if_pos (show true = true from rfl)]
      refine WP_if c0_eq (fun y => absurd (show (1 : Int32) = 0 from y) (by decide)) (fun _ => ?_)
      refine WP_call (M_lead (by omega) h2 hs ?_ hz hz7 hmk ?_ ?_ ?_) (fun p3 hp3 => WP_some hp3)
      · rw [fr2.1 52 (by decide)]; exact hup
      · exact pRoom_fr fr2 (by decide) (by decide) (by decide) hp
      · rw [wN_fr fr2 (by decide)]; exact hw
      · rw [fr2.1 151 (by decide)]; exact hmx
theorem M_sync {F : Nat} {σ : RS} {a : AA} {u : AU} {s : Nat} (hF : 20000 ≤ F) (h : RM σ a u) (hs : s < 7) (hup : aS a 52 s = 1) (hz : u.2 s) (hz7 : u.2 (7 + s)) (hmk : u.2 (14 + s)) (hd : dRq a s) (hw : wN a < 2147483647) (hmx : (aS a 151 s).toInt < 2147483000) (hp : pRoom a s)
    (hpc : aS a 73 s = 3 → pRoom (A_apply (aI (sy2 a s) 75 s (aCommon (aS (sy2 a s) 65 s) (fun p => aS (sy2 a s) 87 (7 * s + p)) 7)) s) s) : WP (m_sync F σ (Int32.ofNat s)) (fun τ => RM τ (A_sync a s) u) := by
  unfold m_sync m_sync_b0
  refine WP_call (M_syncAll (by omega) h hs) (fun p hp0 => ?_)
  have f1 := @AFr_syncAll a s
  have ewt : aWt (A_syncAll a s) s = aWt a s := by rw [f1.2.2.1 (by decide)]
  have eak : aAk (A_syncAll a s) = aAk a := f1.2.2.2.2.2.2.2.2.2.2.2.1 (by decide)
  have eak2 : aAk (aWtS (A_syncAll a s) s []) = aAk a := by
    rw [show ∀ y : AA, aAk (aWtS y s []) = aAk y from fun _ => rfl]
    exact eak
  have hwt := hp0.2.2.1 s hs
  rw [ewt] at hwt
  obtain ⟨w1, w2, w3⟩ := hwt
  refine WP_ld rfl 7 (by decide +kernel) hs ?_
  rw [w1]
  refine WP_st rfl 7 (by decide +kernel) hs ?_
  have hg : RM (setI p 85 s 0) (aWtS (A_syncAll a s) s []) u := RM_wt0 hp0
  have key : ∀ n k (τ : RS) (b : AA), (aWt a s).length + 1 ≤ k + n → k ≤ (aWt a s).length → RM τ b u → aAk b = aAk a → A_sendAllOut b ((aWt a s).drop k) = A_sendAllOut (aWtS (A_syncAll a s) s []) (aWt a s) → (∀ i, i < (aWt a s).length → RLt (aAk a) τ (128 + 32 * s + i) ((aWt a s).getD i aL0)) → WP (m_sync_b21 F n τ (Int32.ofNat s) (Int32.ofNat (aWt a s).length) (Int32.ofNat k)) (fun τ => RM τ (A_sync a s) u) := by
    intro n
    induction n with
    | zero => intro k τ b h1 h2; omega
    | succ n ih =>
      intro k τ b h1 h2 h3 h4 h5 h6
      unfold m_sync_b21
      refine WP_if (i_gei (by omega) (by omega)) (fun q => ?_) (fun q => ?_)
      · have : k = (aWt a s).length := by omega
        subst this
        rw [List.drop_length] at h5
        exact sync_fin hF hs hup hz hz7 hmk hd hw hmx hp hpc (h5 ▸ h3)
      · rw [show (128 : Int32) + 32 * Int32.ofNat s + Int32.ofNat k = Int32.ofNat (128 + 32 * s + k) by
          rw [Int32.ofNat_add, Int32.ofNat_add, Int32.ofNat_mul]
          rfl]
        have hk : k < (aWt a s).length := by omega
        have hd0 : (aWt a s).drop k = (aWt a s).getD k aL0 :: (aWt a s).drop (k + 1) := by
          rw [List.drop_eq_getElem_cons hk, List.getD_eq_getElem?_getD, List.getElem?_eq_getElem hk]
          rfl
        rw [hd0] at h5
        refine WP_call (M_sendOut (l := (aWt a s).getD k aL0) (by omega) h3 (by omega) (by omega) (h4 ▸ h6 k hk)) (fun τ2 hτ2 => ?_)
        obtain ⟨g1, g2⟩ := hτ2
        rw [i_s]
        have ek : aAk (A_sendOut b ((aWt a s).getD k aL0)) = aAk b := AFr_sendOut.2.2.2.2.2.2.2.2.2.2.2.1 (by decide)
        refine ih (k + 1) τ2 _ (by omega) (by omega) g1 (ek.trans h4) h5 (fun i hi => ?_)
        have := h6 i hi
        rw [← h4] at this ⊢
        exact g2 _ _ (by omega) this
  refine key F 0 (setI p 85 s 0) _ (by omega) (Nat.zero_le _) hg eak2 (by rw [List.drop_zero]) (fun i hi => ?_)
  rw [← eak]
  exact RLt_fr (W := [85]) (V := []) Fr_I (by decide) (w3 i hi)
