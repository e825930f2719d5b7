/-! terms, votes, roles -/
theorem i_subI {x y : Int32} (h1 : -2147483648 ≤ x.toInt - y.toInt) (h2 : x.toInt - y.toInt < 2147483648) : (x - y).toInt = x.toInt - y.toInt := by
  rw [Int32.toInt_sub, Int.bmod_def]
  omega
theorem i_addI {x y : Int32} (h1 : -2147483648 ≤ x.toInt + y.toInt) (h2 : x.toInt + y.toInt < 2147483648) : (x + y).toInt = x.toInt + y.toInt := by
  rw [Int32.toInt_add, Int.bmod_def]
  omega
theorem i_1 : (1 : Int32).toInt = 1 := by decide
theorem aHas_i {a : AA} {s : Nat} {n : Int32} (w : WLg a s) (h : aHas a s n = true) : ∃ i, i < (aLg a s).length ∧ n = aBase a s + 1 + Int32.ofNat i ∧ (n - aBase a s - 1).toNatClampNeg = i ∧ n.toInt = (aBase a s).toInt + 1 + i := by
  unfold aHas at h
  have h1 := of_decide_eq_true (Bool.and_eq_true_iff.mp h).1
  have h2 := of_decide_eq_true (Bool.and_eq_true_iff.mp h).2
  rw [Int32.lt_iff_toInt_lt] at h1
  rw [Int32.le_iff_toInt_le] at h2
  obtain ⟨w1, w2, w3, w4⟩ := w
  have e1 : (n - aBase a s).toInt = n.toInt - (aBase a s).toInt := i_subI (by omega) (by omega)
  have e2 : (n - aBase a s - 1).toInt = n.toInt - (aBase a s).toInt - 1 := by
    rw [i_subI (by rw [e1, i_1]; omega) (by rw [e1, i_1]; omega), e1, i_1]
  refine ⟨(n.toInt - (aBase a s).toInt - 1).toNat, by omega, ?_, ?_, by omega⟩
  · rw [← Int32.toInt_inj, i_addI, i_addI, i_1, Int32.toInt_ofNat_of_lt (by omega)]
    · omega
    · rw [i_1]
      omega
    · rw [i_1]
      omega
    · rw [i_addI (by rw [i_1]; omega) (by rw [i_1]; omega), i_1, Int32.toInt_ofNat_of_lt (by omega)]
      omega
    · rw [i_addI (by rw [i_1]; omega) (by rw [i_1]; omega), i_1, Int32.toInt_ofNat_of_lt (by omega)]
      omega
  · unfold Int32.toNatClampNeg
    rw [e2]
theorem RM_wl {σ : RS} {a : AA} {u : AU} {s : Nat} (h : RM σ a u) (hs : s < 7) : WLg a s := h.2.2.2.2.2.2.2.2.2.2.2.2.2.2.2.2.2.2.2.2.1 s hs
theorem M_termAt {σ : RS} {a : AA} {u : AU} {s : Nat} {n : Int32} (h : RM σ a u) (hs : s < 7) (hn : n = aBase a s ∨ aHas a s n = true) : m_termAt σ (Int32.ofNat s) n = some (aTermAt a s n, σ) := by
  rw [m_termAt_n hs, RM_7 (f := 55) h (by decide) hs, RM_7 (f := 57) h (by decide) hs]
  unfold aTermAt
  show some (if n = aBase a s then _ else _, σ) = _
  by_cases q : n = aBase a s
  · rw [if_pos q, if_pos q]
  · rw [if_neg q, if_neg q]
    have hn := hn.resolve_left q
    rw [if_pos hn]
    obtain ⟨i, hi, e, e2, _⟩ := aHas_i (RM_wl h hs) hn
    have := (h.2.2.2.2.1 s hs i hi).1
    unfold aEnt
    rw [e2]
    have e3 : rLp s (aS a 55 s + 1 + Int32.ofNat i) = 512 * s + rMod n := by
      unfold rLp
      rw [e]
      rfl
    rw [e3] at this
    rw [this]
    rfl
theorem last_ok {a : AA} {s : Nat} (w : WLg a s) : aLast a s = aBase a s ∨ aHas a s (aLast a s) = true := by
  obtain ⟨w1, w2, w3, w4⟩ := w
  by_cases q : (aLg a s).length = 0
  · left
    rw [← Int32.toInt_inj]
    omega
  · right
    unfold aHas
    rw [Bool.and_eq_true_iff]
    refine ⟨decide_eq_true ?_, decide_eq_true (Int32.le_refl _)⟩
    rw [Int32.lt_iff_toInt_lt]
    omega
theorem M_lastTerm {σ : RS} {a : AA} {u : AU} {s : Nat} (h : RM σ a u) (hs : s < 7) : m_termAt σ (Int32.ofNat s) (aS a 56 s) = some (aLastTerm a s, σ) := M_termAt h hs (last_ok (RM_wl h hs))
theorem M_isAsNew {σ : RS} {a : AA} {u : AU} {s : Nat} {n t : Int32} (h : RM σ a u) (hs : s < 7) : m_isAsNew σ (Int32.ofNat s) n t = some (aB (aAsNew a s n t), σ) := by
  have g : WP (m_isAsNew σ (Int32.ofNat s) n t) (fun p => p = (aB (aAsNew a s n t), σ)) := by
    unfold m_isAsNew m_isAsNew_b0
    refine WP_r7 h (by decide) hs ?_
    refine WP_eq (M_lastTerm h hs) ?_
    unfold aAsNew
    refine WP_if c2_gt (fun q => ?_) (fun q => ?_)
    · rw [show decide (aLastTerm a s < t) = true from decide_eq_true q]
      exact ⟨_, rfl, rfl⟩
    · rw [show decide (aLastTerm a s < t) = false from decide_eq_false q]
      refine WP_if c2_ne (fun q2 => ?_) (fun q2 => ?_)
      · rw [show decide (t = aLastTerm a s) = false from decide_eq_false q2]
        exact ⟨_, rfl, rfl⟩
      · rw [show decide (t = aLastTerm a s) = true from decide_eq_true (Classical.not_not.mp q2)]
        refine WP_r7 h (by decide) hs ?_
        refine WP_if c2_lt (fun q3 => ?_) (fun q3 => ?_)
        · rw [show decide (aLast a s ≤ n) = false from decide_eq_false (by
            rw [Int32.le_iff_toInt_le]
            have := Int32.lt_iff_toInt_lt.mp q3
            have : n.toInt < (aLast a s).toInt := this
            omega)]
          exact ⟨_, rfl, rfl⟩
        · rw [show decide (aLast a s ≤ n) = true from decide_eq_true (by
            rw [Int32.le_iff_toInt_le]
            rw [Int32.lt_iff_toInt_lt] at q3
            have : ¬ n.toInt < (aLast a s).toInt := q3
            omega)]
          exact ⟨_, rfl, rfl⟩
  obtain ⟨x, h1, h2⟩ := g
  rw [h1, h2]
theorem RM_rq0 {σ σ' : RS} {a : AA} {u : AU} {s : Nat} (h : RM σ a u) (hs : s < 7) (hF : Fr [95] [] σ σ') (h0 : ∀ w, w < 32 → σ'.1 95 (32 * s + w) = 0) (h1 : ∀ t w, t ≠ s → w < 32 → σ'.1 95 (32 * t + w) = σ.1 95 (32 * t + w)) : RM σ' (aDropReq a s) u := by
  have hrq : ∀ t, t < 7 → RRq (aAk a) σ' t (u.1.2 t) (aS a 151 t) (aRq (aDropReq a s) t) := by
    intro t ht
    obtain ⟨b, e1, e1', e2, e3, e4, e5⟩ := h.2.2.2.2.2.2.2.2.2.2.2.2.1 t ht
    have e94 : σ'.1 94 t = Int32.ofNat b := by
      rw [hF.1 94 (by decide)]
      exact e2
    show RRq (aAk a) σ' t (u.1.2 t) (aS a 151 t) (if t = s then [] else aRq a t)
    by_cases q : t = s
    · rw [if_pos q]
      refine ⟨b, e1, e1', e94, List.Pairwise.nil, fun j hj => absurd hj List.not_mem_nil, fun w hw => ?_⟩
      rw [q, h0 w hw]
      rfl
    · rw [if_neg q]
      refine ⟨b, e1, e1', e94, e3, fun x hx => ?_, fun w hw => ?_⟩
      · obtain ⟨y1, y2, y3, y4⟩ := e4 x hx
        refine ⟨y1, y2, y3, ?_⟩
        unfold RRq1 at y4 ⊢
        rw [h1 t _ q (Nat.mod_lt _ (by decide)), hF.1 96 (by decide), hF.1 97 (by decide), hF.1 98 (by decide), hF.1 99 (by decide), hF.1 100 (by decide), hF.1 101 (by decide), hF.1 102 (by decide), hF.1 103 (by decide), hF.1 104 (by decide), hF.1 105 (by decide)]
        exact y4
      · rw [h1 t w q hw]
        exact e5 w hw
  exact ⟨RSc_fr hF (by decide) h.1, RWay_fr hF (by decide) h.2.1, fun s hs => RWt_fr hF (by decide) (h.2.2.1 s hs), fun l hl => RLt_fr hF (by decide) (h.2.2.2.1 l hl), fun s hs => RLog_fr hF (by decide) (h.2.2.2.2.1 s hs), fun s hs => RDk_fr hF (by decide) (h.2.2.2.2.2.1 s hs), fun s hs => RSl_fr hF (by decide) (h.2.2.2.2.2.2.1 s hs), fun s hs hu => RCh_fr hF (by decide) (h.2.2.2.2.2.2.2.1 s hs hu), fun s hs hu => RAt_fr hF (by decide) (h.2.2.2.2.2.2.2.2.1 s hs hu), fun s hs => RMc_fr hF (by decide) (h.2.2.2.2.2.2.2.2.2.1 s hs), fun s hs => RSh_fr hF (by decide) (h.2.2.2.2.2.2.2.2.2.2.1 s hs), fun s hs => RPc_fr hF (by decide) (h.2.2.2.2.2.2.2.2.2.2.2.1 s hs), hrq, RAk_fr hF (by decide) h.2.2.2.2.2.2.2.2.2.2.2.2.2.1, fun s hs => RWn_fr hF (by decide) (h.2.2.2.2.2.2.2.2.2.2.2.2.2.2.1 s hs), RTp_fr hF (by decide) h.2.2.2.2.2.2.2.2.2.2.2.2.2.2.2.1, RRe_fr hF (by decide) h.2.2.2.2.2.2.2.2.2.2.2.2.2.2.2.2.1, fun s hs => RDn_fr hF (by decide) (h.2.2.2.2.2.2.2.2.2.2.2.2.2.2.2.2.2.1 s hs), RSum_fr hF (by decide) h.2.2.2.2.2.2.2.2.2.2.2.2.2.2.2.2.2.2.1, h.2.2.2.2.2.2.2.2.2.2.2.2.2.2.2.2.2.2.2.1, h.2.2.2.2.2.2.2.2.2.2.2.2.2.2.2.2.2.2.2.2.1, h.2.2.2.2.2.2.2.2.2.2.2.2.2.2.2.2.2.2.2.2.2.1, h.2.2.2.2.2.2.2.2.2.2.2.2.2.2.2.2.2.2.2.2.2.2.1, h.2.2.2.2.2.2.2.2.2.2.2.2.2.2.2.2.2.2.2.2.2.2.2⟩
theorem M_dropRequests {F : Nat} {σ : RS} {a : AA} {u : AU} {s : Nat} (hF : 400 ≤ F) (h : RM σ a u) (hs : s < 7) : WP (m_dropRequests F σ (Int32.ofNat s)) (fun σ' => RM σ' (aDropReq a s) u) := by
  have key : ∀ n k (τ : RS), 33 ≤ k + n → k ≤ 32 → Fr [95] [] σ τ → (∀ w, w < k → τ.1 95 (32 * s + w) = 0) → (∀ t w, t ≠ s → w < 32 → τ.1 95 (32 * t + w) = σ.1 95 (32 * t + w)) → WP (m_dropRequests_b5 F n τ (Int32.ofNat s) (Int32.ofNat (32 * s + k))) (fun σ' => RM σ' (aDropReq a s) u) := by
    intro n
    induction n with
    | zero => intro k τ h1 h2; omega
    | succ n ih =>
      intro k τ h1 h2 h3 h4 h5
      unfold m_dropRequests_b5
      refine WP_if (p := 32 ≤ k) (by
        rw [show (32 : Int32) * Int32.ofNat s + 32 = Int32.ofNat (32 * s + 32) from i_ma, i_gei (by omega) (by omega)]
        omega) (fun q => ?_) (fun q => ?_)
      · have : k = 32 := by omega
        subst this
        exact WP_some (RM_rq0 h hs h3 h4 h5)
      · refine WP_st rfl 224 (by decide +kernel) (by omega) ?_
        rw [i_s]
        refine ih (k + 1) _ (by omega) (by omega) (Fr_w (Fr_t h3 Fr_I) (by simp) (by simp)) (fun w hw => ?_) (fun t w ht hw => ?_)
        · by_cases q2 : w = k
          · rw [q2, setI_e]
            rfl
          · rw [setI_i (by omega)]
            exact h4 w (by omega)
        · rw [setI_i (by omega)]
          exact h5 t w ht hw
  unfold m_dropRequests m_dropRequests_b0
  rw [show (32 : Int32) * Int32.ofNat s = Int32.ofNat (32 * s + 0) from i_mc]
  exact key F 0 σ (by omega) (by omega) ⟨fun _ _ => rfl, fun _ _ => rfl⟩ (fun w hw => absurd hw (Nat.not_lt_zero _)) (fun _ _ _ _ => rfl)
theorem i_nle {x y : Int32} : ¬ x ≤ y ↔ y < x := by
  rw [Int32.le_iff_toInt_le, Int32.lt_iff_toInt_lt]
  omega
theorem i_nlt {x y : Int32} : ¬ x < y ↔ y ≤ x := by
  rw [Int32.le_iff_toInt_le, Int32.lt_iff_toInt_lt]
  omega
theorem M_stepDown {F : Nat} {σ : RS} {a : AA} {u : AU} {s : Nat} {t l : Int32} (hF : 400 ≤ F) (h : RM σ a u) (hs : s < 7) (hw : wN a < 2147483647) : WP (m_stepDown F σ (Int32.ofNat s) t l) (fun σ' => RM σ' (A_stepDown a s t l) u) := by
  unfold m_stepDown m_stepDown_b0 A_stepDown
  have rest : ∀ (τ : RS) (b : AA), RM τ b u → WP (m_stepDown_b29 F τ (Int32.ofNat s) l) (fun σ' => RM σ' (aI (aI (if aS b 73 s = 3 then aI (aDropReq (A_drawAlarm b s) s) 80 s (-1) else b) 73 s 0) 74 s l) u) := by
    intro τ b hb
    unfold m_stepDown_b29 m_stepDown_b56
    refine WP_r7 hb (by decide) hs ?_
    refine WP_if c2_ne (fun q => ?_) (fun q => ?_)
    · rw [if_neg q]
      refine WP_w73 hb hs (Or.inl (by decide)) (fun σ1 h1 => ?_)
      refine WP_w7 h1 (by decide) (by decide) hs (fun σ2 h2 => ?_)
      exact WP_some h2
    · rw [if_pos (Classical.not_not.mp q)]
      refine WP_call (M_drawAlarm hb hs) (fun p hp => ?_)
      refine WP_call (M_dropRequests hF hp hs) (fun p2 hp2 => ?_)
      refine WP_w7 hp2 (by decide) (by decide) hs (fun σ1 h1 => ?_)
      refine WP_w73 h1 hs (Or.inl (by decide)) (fun σ2 h2 => ?_)
      refine WP_w7 h2 (by decide) (by decide) hs (fun σ3 h3 => ?_)
      exact WP_some h3
  refine WP_r7 h (by decide) hs ?_
  refine WP_if c2_le (fun q => ?_) (fun q => ?_)
  · rw [if_neg (i_nlt.mpr q)]
    exact rest σ a h
  · rw [if_pos (i_nle.mp q)]
    refine WP_w7 h (by decide) (by decide) hs (fun σ1 h1 => ?_)
    refine WP_w7 h1 (by decide) (by decide) hs (fun σ2 h2 => ?_)
    refine WP_call (M_writeSlot h2 hs hw) (fun p hp => rest p _ hp)
theorem M_voters {σ : RS} {a : AA} {u : AU} {s : Nat} (h : RM σ a u) (hs : s < 7) : m_voters σ (Int32.ofNat s) = some (aVoters a s, σ) := by
  rw [m_voters_n hs, RM_7 (f := 65) h (by decide) hs]
  rfl
theorem M_isVoter {σ : RS} {a : AA} {u : AU} {s p : Nat} (h : RM σ a u) (hs : s < 7) (hp : p < 32) : m_isVoter σ (Int32.ofNat s) (Int32.ofNat p) = some (aB (aVoter a s p), σ) := by
  rw [m_isVoter_n hs hp, RM_7 (f := 65) h (by decide) hs]
  rfl
theorem M_isPeer {σ : RS} {a : AA} {u : AU} {s p : Nat} (h : RM σ a u) (hs : s < 7) (hp : p < 32) : m_isPeer σ (Int32.ofNat s) (Int32.ofNat p) = some (aB (aPeer a s p), σ) := by
  rw [m_isPeer_n hs hp, RM_7 (f := 65) h (by decide) hs]
  rfl
theorem M_isMajority {F : Nat} {σ : RS} {a : AA} {u : AU} {s : Nat} {set : Int32} (hF : 400 ≤ F) (h : RM σ a u) (hs : s < 7) : m_isMajority F σ (Int32.ofNat s) set = some (aB (aMaj (aS a 65 s) set), σ) := by
  rw [m_isMajority_n (by omega) hs, RM_7 (f := 65) h (by decide) hs]
theorem M_common {F : Nat} {σ : RS} {a : AA} {u : AU} {s w : Nat} (hF : 400 ≤ F) (h : RM σ a u) (hs : s < 7) (hw : w < 3) : m_common F σ (Int32.ofNat s) (Int32.ofNat w) = some (aCommon (aS a 65 s) (fun p => aS a (fW w) (7 * s + p)) 7, σ) := by
  rw [m_common_n hs hw (by omega), RM_7 (f := 65) h (by decide) hs]
  have e : ∀ x y : Nat → Int32, (∀ p, p < 7 → x p = y p) → ∀ c, aCommon c x 7 = aCommon c y 7 := by
    intro x y hxy c
    have er : ∀ v n, n ≤ 7 → aReach x v n = aReach y v n := by
      intro v n
      induction n with
      | zero => intro _; rfl
      | succ n ih =>
        intro hn
        rw [aReach_s, aReach_s, ih (by omega), hxy n (by omega)]
    have ec : ∀ n, n ≤ 7 → aCommon c x n = aCommon c y n := by
      intro n
      induction n with
      | zero => intro _; rfl
      | succ n ih =>
        intro hn
        rw [aCommon_s, aCommon_s, ih (by omega), hxy n (by omega), er _ 7 (by omega)]
    exact ec 7 (by omega)
  rw [e _ (fun p => aS a (fW w) (7 * s + p)) (fun p hp => RM_49 h (by unfold fW; split <;> (try split) <;> decide) (by omega))]
theorem aI_comm {a : AA} {f i g j : Nat} {v w : Int32} (h : ¬ (f = g ∧ i = j)) : aI (aI a f i v) g j w = aI (aI a g j w) f i v := by
  refine Prod.ext (Prod.ext ?_ rfl) rfl
  funext x y
  show (if x = g ∧ y = j then w else if x = f ∧ y = i then v else a.1.1 x y) = (if x = f ∧ y = i then v else if x = g ∧ y = j then w else a.1.1 x y)
  by_cases q : x = g ∧ y = j
  · rw [if_pos q, if_neg (fun z => h ⟨z.1.symm.trans q.1, z.2.symm.trans q.2⟩), if_pos q]
  · rw [if_neg q, if_neg q]
theorem aTermAt_c {a a' : AA} {s : Nat} {n : Int32} (e1 : aS a' 55 s = aS a 55 s) (e2 : aS a' 56 s = aS a 56 s) (e3 : aS a' 57 s = aS a 57 s) (e4 : aLg a' s = aLg a s) : aTermAt a' s n = aTermAt a s n := by
  unfold aTermAt aHas aEnt aBase aLast
  rw [e1, e2, e3, e4]
theorem aLastTerm_c {a a' : AA} {s : Nat} (e1 : aS a' 55 s = aS a 55 s) (e2 : aS a' 56 s = aS a 56 s) (e3 : aS a' 57 s = aS a 57 s) (e4 : aLg a' s = aLg a s) : aLastTerm a' s = aLastTerm a s := by
  unfold aLastTerm
  rw [aTermAt_c e1 e2 e3 e4]
  unfold aLast
  rw [e2]
theorem ofs7 {p : Nat} (hp : p < 7) : aInR (Int32.ofNat p) 0 6 = true := by
  revert p
  decide
theorem b_sh {x : Int32} {p : Nat} (hp : p < 32) : (x >>> (Int32.ofNat p &&& 31)) &&& 1 = if aIn x p then 1 else 0 := by
  rw [i_31 hp]
  exact b_bit
theorem M_postVoters {F : Nat} {σ : RS} {a : AA} {u : AU} {s : Nat} {k t : Int32} (hF : 400 ≤ F) (h : RM σ a u) (hs : s < 7) (hk : k = 1 ∨ k = 3) : WP (m_postVoters F σ (Int32.ofNat s) k t) (fun σ' => RM σ' (aAskVoters a s k t 7) u) := by
  have key : ∀ n p (τ : RS), 8 ≤ p + n → p ≤ 7 → RM τ (aAskVoters a s k t p) u → WP (m_postVoters_b23 F n τ (Int32.ofNat s) k t (aLastTerm a s) (aVoters a s) (Int32.ofNat p)) (fun σ' => RM σ' (aAskVoters a s k t 7) u) := by
    intro n
    induction n with
    | zero => intro p τ h1 h2; omega
    | succ n ih =>
      intro p τ h1 h2 h3
      unfold m_postVoters_b23
      have fr := AFr_askVoters (a := a) (s := s) (k := k) (t := t) p
      have ev : aVoters (aAskVoters a s k t p) s = aVoters a s := by
        unfold aVoters
        rw [fr.1 65 (by decide)]
      have el : aLast (aAskVoters a s k t p) s = aLast a s := fr.1 56 (by decide) s
      have et : aLastTerm (aAskVoters a s k t p) s = aLastTerm a s := aLastTerm_c (fr.1 55 (by decide) s) (fr.1 56 (by decide) s) (fr.1 57 (by decide) s) (by rw [fr.2.2.2.1 (by decide)])
      refine WP_if (p := 7 ≤ p) (i_gei (q := 7) (by omega) (by omega)) (fun q => ?_) (fun q => ?_)
      · have : p = 7 := by omega
        subst this
        exact WP_some h3
      · have next : ∀ τ', RM τ' (aAskOne (aAskVoters a s k t p) s k t p) u → WP (m_postVoters_b71 F (m_postVoters_b23 F n) τ' (Int32.ofNat s) k t (aLastTerm a s) (aVoters a s) (Int32.ofNat p)) (fun σ' => RM σ' (aAskVoters a s k t 7) u) := by
          intro τ' h'
          unfold m_postVoters_b71
          rw [i_s]
          exact ih (p + 1) τ' (by omega) (by omega) h'
        unfold aAskOne at next
        rw [ev, el, et] at next
        refine WP_if (p := p = s) (c2_eq.trans (i_eqi (by omega) (by omega))) (fun q2 => ?_) (fun q2 => ?_)
        · rw [show decide (p = s) = true from decide_eq_true q2] at next
          exact next τ h3
        · rw [show decide (p = s) = false from decide_eq_false q2, b_sh (by omega)] at *
          cases hb : aIn (aVoters a s) p with
          | false =>
            rw [hb] at next
            refine WP_if c0_ne (fun q3 => absurd rfl q3) (fun q3 => next τ h3)
          | true =>
            rw [hb] at next
            refine WP_if c0_ne (fun q3 => ?_) (fun q3 => absurd q3 (by decide))
            refine WP_r7 h3 (by decide) hs ?_
            rw [fr.1 56 (by decide) s]
            refine WP_call (M_write (l := aLn (aLn (aLet (Int32.ofNat s) (Int32.ofNat p) k t) 7 (aLast a s)) 8 (aLastTerm a s)) h3 rfl ?_ rfl rfl ⟨wfS hs, Or.inl (ofs7 (by omega))⟩ ?_) (fun τ2 h2 => ?_)
            · rcases hk with rfl | rfl <;> rfl
            · intro j v hv
              rcases hk with rfl | rfl
              · match j, hv with
                | 0, hv => exact Or.inl ⟨rfl, (Option.some.inj hv).symm⟩
                | 1, hv => exact Or.inr (Or.inl ⟨rfl, (Option.some.inj hv).symm⟩)
                | j + 2, hv => exact absurd hv (by simp [lTd, aU, aLet, aLn])
              · match j, hv with
                | 0, hv => exact Or.inl ⟨rfl, (Option.some.inj hv).symm⟩
                | 1, hv => exact Or.inr (Or.inl ⟨rfl, (Option.some.inj hv).symm⟩)
                | j + 2, hv => exact absurd hv (by simp [lTd, aU, aLet, aLn])
            · exact WP_call (M_postM hF h2.1 hs h2.2 rfl rfl) (fun τ3 h3 => next τ3 h3)
  unfold m_postVoters m_postVoters_b0
  refine WP_r7 h (by decide) hs ?_
  refine WP_eq (M_lastTerm h hs) ?_
  refine WP_eq (M_voters h hs) ?_
  exact key F 0 σ (by omega) (by omega) h
theorem M_campaign {F : Nat} {σ : RS} {a : AA} {u : AU} {s : Nat} (hF : 400 ≤ F) (h : RM σ a u) (hs : s < 7) (hw : wN a < 2147483647) : WP (m_campaign F σ (Int32.ofNat s)) (fun σ' => RM σ' (A_campaign a s) u) := by
  unfold m_campaign A_campaign
  refine WP_w73 h hs (Or.inl (by decide)) (fun σ1 h1 => ?_)
  refine WP_w7 h1 (by decide) (by decide) hs (fun σ2 h2 => ?_)
  refine WP_r7 h2 (by decide) hs ?_
  refine WP_w7 h2 (by decide) (by decide) hs (fun σ3 h3 => ?_)
  refine WP_w7 h3 (by decide) (by decide) hs (fun σ4 h4 => ?_)
  refine WP_call (M_writeSlot h4 hs hw) (fun p hp => ?_)
  refine WP_w7 hp (by decide) (by decide) hs (fun σ5 h5 => ?_)
  refine WP_call (M_drawAlarm h5 hs) (fun p2 hp2 => ?_)
  refine WP_r7 hp2 (by decide) hs ?_
  exact WP_call (M_postVoters hF hp2 hs (Or.inr rfl)) (fun p3 hp3 => WP_some hp3)
