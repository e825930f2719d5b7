/-! clients: told -/
theorem RM_ak {σ σ' : RS} {a : AA} {u : AU} {K' : List AK} {P : Nat → Prop} (h : RM σ a u) (hF : Fr [140, 142] [] σ σ') (hK : KX P (aAk a) K') (h1 : ∀ p ∈ aWay a, lOK P p.2.2) (h2 : ∀ s, s < 7 → ∀ l ∈ aWt a s, lOK P l) (h3 : ∀ l, u.1.1 = some l → lOK P l) (hak : RAk σ' K') : RM σ' (aAkS a K') u := by
  exact ⟨RSc_fr hF (by decide) h.1, RWay_K hK h1 (RWay_fr hF (by decide) h.2.1), fun s hs => RWt_K hK (h2 s hs) (RWt_fr hF (by decide) (h.2.2.1 s hs)), fun l hl => RLt_K hK (h3 l hl) (RLt_fr hF (by decide) (h.2.2.2.1 l hl)), fun s hs => RLog_K hK (RLog_fr hF (by decide) (h.2.2.2.2.1 s hs)), fun s hs => RDk_K hK (RDk_fr hF (by decide) (h.2.2.2.2.2.1 s hs)), fun s hs => RSl_fr hF (by decide) (h.2.2.2.2.2.2.1 s hs), fun s hs hu => RCh_fr hF (by decide) (h.2.2.2.2.2.2.2.1 s hs hu), fun s hs hu => RAt_fr hF (by decide) (h.2.2.2.2.2.2.2.2.1 s hs hu), fun s hs => RMc_fr hF (by decide) (h.2.2.2.2.2.2.2.2.2.1 s hs), fun s hs => RSh_fr hF (by decide) (h.2.2.2.2.2.2.2.2.2.2.1 s hs), fun s hs => RPc_fr hF (by decide) (h.2.2.2.2.2.2.2.2.2.2.2.1 s hs), fun s hs => RRq_K hK (RRq_fr hF (by decide) (h.2.2.2.2.2.2.2.2.2.2.2.2.1 s hs)), hak, fun c hc => RWn_K hK (RWn_fr hF (by decide) (h.2.2.2.2.2.2.2.2.2.2.2.2.2.2.1 c hc)), RTp_fr hF (by decide) h.2.2.2.2.2.2.2.2.2.2.2.2.2.2.2.1, RRe_fr hF (by decide) h.2.2.2.2.2.2.2.2.2.2.2.2.2.2.2.2.1, fun s hs => RDn_fr hF (by decide) (h.2.2.2.2.2.2.2.2.2.2.2.2.2.2.2.2.2.1 s hs), RSum_fr hF (by decide) h.2.2.2.2.2.2.2.2.2.2.2.2.2.2.2.2.2.2.1, h.2.2.2.2.2.2.2.2.2.2.2.2.2.2.2.2.2.2.2.1, h.2.2.2.2.2.2.2.2.2.2.2.2.2.2.2.2.2.2.2.2.1, h.2.2.2.2.2.2.2.2.2.2.2.2.2.2.2.2.2.2.2.2.2.1, h.2.2.2.2.2.2.2.2.2.2.2.2.2.2.2.2.2.2.2.2.2.2.1, h.2.2.2.2.2.2.2.2.2.2.2.2.2.2.2.2.2.2.2.2.2.2.2⟩
theorem RM_124 {σ : RS} {a : AA} {u : AU} {c : Nat} (h : RM σ a u) : RM (setI σ 124 c 0) (aI a 124 c 0) u := by
  have hF : Fr [124] [] σ (setI σ 124 c 0) := Fr_I
  have hwn : ∀ t, t < 8 → RWn (setI σ 124 c 0) (aAk a) (aS (aI a 124 c 0) 124 t) (aS a 137 t) t := by
    intro t ht
    refine RWn_fr hF (by decide) ?_
    show RWn σ (aAk a) (if 124 = 124 ∧ t = c then 0 else aS a 124 t) _ _
    by_cases q : t = c
    · rw [if_pos ⟨rfl, q⟩]
      exact Or.inl rfl
    · rw [if_neg (fun z => q z.2)]
      exact h.2.2.2.2.2.2.2.2.2.2.2.2.2.2.1 t ht
  exact ⟨RSc_I h.1, RWay_fr hF (by decide) h.2.1, fun s hs => RWt_fr hF (by decide) (h.2.2.1 s hs), fun l hl => RLt_fr hF (by decide) (h.2.2.2.1 l hl), fun s hs => RLog_fr hF (by decide) (h.2.2.2.2.1 s hs), fun s hs => RDk_fr hF (by decide) (h.2.2.2.2.2.1 s hs), fun s hs => RSl_fr hF (by decide) (h.2.2.2.2.2.2.1 s hs), fun s hs hu => RCh_fr hF (by decide) (h.2.2.2.2.2.2.2.1 s hs hu), fun s hs hu => RAt_fr hF (by decide) (h.2.2.2.2.2.2.2.2.1 s hs hu), fun s hs => RMc_fr hF (by decide) (h.2.2.2.2.2.2.2.2.2.1 s hs), fun s hs => RSh_fr hF (by decide) (h.2.2.2.2.2.2.2.2.2.2.1 s hs), fun s hs => RPc_fr hF (by decide) (h.2.2.2.2.2.2.2.2.2.2.2.1 s hs), fun s hs => RRq_fr hF (by decide) (h.2.2.2.2.2.2.2.2.2.2.2.2.1 s hs), RAk_fr hF (by decide) h.2.2.2.2.2.2.2.2.2.2.2.2.2.1, hwn, RTp_fr hF (by decide) h.2.2.2.2.2.2.2.2.2.2.2.2.2.2.2.1, RRe_fr hF (by decide) h.2.2.2.2.2.2.2.2.2.2.2.2.2.2.2.2.1, fun s hs => RDn_fr hF (by decide) (h.2.2.2.2.2.2.2.2.2.2.2.2.2.2.2.2.2.1 s hs), RSum_fr hF (by decide) h.2.2.2.2.2.2.2.2.2.2.2.2.2.2.2.2.2.2.1, h.2.2.2.2.2.2.2.2.2.2.2.2.2.2.2.2.2.2.2.1, h.2.2.2.2.2.2.2.2.2.2.2.2.2.2.2.2.2.2.2.2.1, h.2.2.2.2.2.2.2.2.2.2.2.2.2.2.2.2.2.2.2.2.2.1, h.2.2.2.2.2.2.2.2.2.2.2.2.2.2.2.2.2.2.2.2.2.2.1, h.2.2.2.2.2.2.2.2.2.2.2.2.2.2.2.2.2.2.2.2.2.2.2⟩
def toldK (K : List AK) (i : Nat) (m w p : Int32) : List AK := K.set i (aU (aU (aU (K.getD i aK0).1 3 m) 4 w) 5 p, (K.getD i aK0).2)
theorem toldK_get {K : List AK} {i j : Nat} {m w p : Int32} (hi : i < K.length) : (toldK K i m w p).getD j aK0 = if j = i then (aU (aU (aU (K.getD i aK0).1 3 m) 4 w) 5 p, (K.getD i aK0).2) else K.getD j aK0 := by
  unfold toldK
  rw [List.getD_eq_getElem?_getD, List.getElem?_set]
  by_cases q : j = i
  · rw [if_pos q, if_pos q.symm, if_pos hi]
    rfl
  · rw [if_neg q, if_neg (fun z => q z.symm), List.getD_eq_getElem?_getD]
theorem KX_told {K : List AK} {i : Nat} {m w p : Int32} (hi : i < K.length) : KX (fun _ => True) K (toldK K i m w p) := by
  refine ⟨?_, fun _ _ => trivial, fun j _ => ?_⟩
  · unfold toldK
    rw [List.length_set]
    exact Nat.le_refl _
  · unfold kAgr
    rw [toldK_get hi]
    by_cases q : j = i
    · rw [if_pos q, q]
      exact ⟨rfl, rfl, rfl, rfl⟩
    · rw [if_neg q]
      exact ⟨rfl, rfl, rfl, rfl⟩
theorem RM_told {σ : RS} {a : AA} {u : AU} {i : Nat} {m w p : Int32} (h : RM σ a u) (hi : i < (aAk a).length) : RM (setI (setI (setI σ 142 (6 * i + 3) m) 142 (6 * i + 4) w) 142 (6 * i + 5) p) (aAkS a (toldK (aAk a) i m w p)) u := by
  have hF : Fr [140, 142] [] σ (setI (setI (setI σ 142 (6 * i + 3) m) 142 (6 * i + 4) w) 142 (6 * i + 5) p) := Fr_w (Fr_t (Fr_t Fr_I Fr_I) Fr_I) (by simp) (by simp)
  refine RM_ak h hF (KX_told hi) (fun _ _ _ _ => trivial) (fun _ _ _ _ _ _ => trivial) (fun _ _ _ _ => trivial) ?_
  obtain ⟨k1, k2, k3, k4⟩ := h.2.2.2.2.2.2.2.2.2.2.2.2.2.1
  have el : (toldK (aAk a) i m w p).length = (aAk a).length := by
    unfold toldK
    rw [List.length_set]
  refine ⟨by rw [el]; exact k1, by rw [el]; exact k2, fun k hk => ?_, fun j hj x hx => ?_⟩
  · obtain ⟨n, hn, rfl⟩ := List.getElem_of_mem hk
    have e1 : (toldK (aAk a) i m w p)[n] = (toldK (aAk a) i m w p).getD n aK0 := by
      rw [List.getD_eq_getElem?_getD, List.getElem?_eq_getElem hn]
      rfl
    have old : ∀ n, n < (aAk a).length → wfK ((aAk a).getD n aK0) := fun n hn => k3 _ (by
      rw [List.getD_eq_getElem?_getD, List.getElem?_eq_getElem hn]
      exact List.getElem_mem _)
    rw [e1, toldK_get hi]
    rw [el] at hn
    by_cases q : n = i
    · rw [if_pos q]
      exact old i hi
    · rw [if_neg q]
      exact old n hn
  · rw [el] at hj
    have e1 := @toldK_get (aAk a) i j m w p hi
    unfold aK0 at e1
    rw [e1]
    by_cases q : j = i
    · subst q
      rw [if_pos rfl]
      show _ = (if x = 5 then p else if x = 4 then w else if x = 3 then m else ((aAk a).getD j aK0).1 x)
      by_cases q5 : x = 5
      · rw [if_pos q5, q5, setI_e]
      · rw [if_neg q5, setI_i (by omega)]
        by_cases q4 : x = 4
        · rw [if_pos q4, q4, setI_e]
        · rw [if_neg q4, setI_i (by omega)]
          by_cases q3 : x = 3
          · rw [if_pos q3, q3, setI_e]
          · rw [if_neg q3, setI_i (by omega)]
            exact k4 j hi x hx
    · rw [if_neg q, setI_i (by omega), setI_i (by omega), setI_i (by omega)]
      exact k4 j hj x hx
/-- the asking of a client that waits -/
theorem wn_get {σ : RS} {a : AA} {u : AU} {c : Nat} (h : RM σ a u) (hc : c < 8) (hb : ¬ aS a 124 c = 0) : ∃ i, aS a 137 c = Int32.ofNat i ∧ (aS a 137 c).toNatClampNeg = i ∧ i < (aAk a).length ∧ (aAk a).length ≤ 1024 ∧ aAsk a c = (aAk a).getD i aK0 ∧ wfK (aAsk a c) ∧ σ.1 132 c = (aAsk a c).1 1 ∧ σ.1 133 c = (aAsk a c).1 7 ∧ σ.1 134 c = (aAsk a c).1 8 ∧ σ.1 135 c = Int32.ofNat (aAsk a c).2.length ∧ ∀ i, i < (aAsk a c).2.length → σ.1 136 (400 * c + i) = (aAsk a c).2.getD i 0 := by
  rcases h.2.2.2.2.2.2.2.2.2.2.2.2.2.2.1 c hc with z | ⟨z1, z2, z3⟩
  · exact absurd z hb
  · obtain ⟨k1, k2, k3, k4⟩ := h.2.2.2.2.2.2.2.2.2.2.2.2.2.1
    exact ⟨(aS a 137 c).toNatClampNeg, i_of z1, rfl, z2, k2, rfl, k3 _ (by
      unfold aAsk
      rw [List.getD_eq_getElem?_getD, List.getElem?_eq_getElem z2]
      exact List.getElem_mem _), z3⟩
theorem M_tellClient {σ : RS} {a : AA} {u : AU} {c : Nat} {w p : Int32} (h : RM σ a u) (hc : c < 8) (hb : ¬ aS a 124 c = 0) : WP (m_tellClient σ (Int32.ofNat c) w p) (fun τ => RM τ (aTellClient a c w p) u) := by
  obtain ⟨i, e1, e2, e3, e4, _⟩ := wn_get h hc hb
  unfold m_tellClient
  refine WP_ld rfl 8 (by decide +kernel) hc ?_
  rw [show σ.1 137 c = Int32.ofNat i from (RM_8 h (by decide) hc).trans e1, show (6 : Int32) * Int32.ofNat i + 3 = Int32.ofNat (6 * i + 3) from i_ma (c := 6) (j := 3), show (6 : Int32) * Int32.ofNat i + 4 = Int32.ofNat (6 * i + 4) from i_ma (c := 6) (j := 4), show (6 : Int32) * Int32.ofNat i + 5 = Int32.ofNat (6 * i + 5) from i_ma (c := 6) (j := 5)]
  refine WP_st rfl 6144 (by decide +kernel) (by omega) ?_
  refine WP_st rfl 6144 (by decide +kernel) (by omega) ?_
  refine WP_st rfl 6144 (by decide +kernel) (by omega) ?_
  have h1 := RM_told (m := σ.1 141 0) (w := w) (p := p) h e3
  have e141 : σ.1 141 0 = aS a 141 0 := RM_0 h (by decide)
  have fr1 : ∀ f i, aS (aAkS a (toldK (aAk a) i (σ.1 141 0) w p)) f i = aS a f i := fun _ _ => rfl
  have eA : aTellClient a c w p = aI (aI (aAdd (aAkS a (toldK (aAk a) i (σ.1 141 0) w p)) 141 0 1) 124 c 0) 29 (8 + c) (-1) := by
    unfold aTellClient toldK aK0
    dsimp only
    rw [e2, e141]
  rw [eA]
  generalize aAkS a (toldK (aAk a) i (σ.1 141 0) w p) = b at h1 fr1
  generalize setI (setI (setI σ 142 (6 * i + 3) (σ.1 141 0)) 142 (6 * i + 4) w) 142 (6 * i + 5) p = σ1 at h1
  rw [show σ1.1 141 0 = aS b 141 0 from RM_0 h1 (by decide)]
  refine WP_w0 h1 (by decide) (fun σ2 h2 => ?_)
  refine WP_st rfl 8 (by decide +kernel) hc ?_
  have h3 := RM_124 (c := c) h2
  rw [show (0 : Int32) &&& 1 = 0 from rfl, show (8 : Int32) + Int32.ofNat c = Int32.ofNat (8 + c) from i_ad (c := 8)]
  refine WP_st rfl 16 (by decide +kernel) (by omega) ?_
  exact WP_some (RM_I h3 (by decide))
theorem m_isCommand_e {σ : RS} {a : AA} {u : AU} {c : Nat} (h : RM σ a u) (hc : c < 8) (hb : ¬ aS a 124 c = 0) : m_isCommand σ (Int32.ofNat c) = some (aB (aCmd a c), σ) := by
  obtain ⟨i, _, _, _, _, _, _, e7, _⟩ := wn_get h hc hb
  have g : WP (m_isCommand σ (Int32.ofNat c)) (fun p => p = (aB (aCmd a c), σ)) := by
    unfold m_isCommand m_isCommand_b0 m_isCommand_b15 aCmd
    refine WP_ld rfl 8 (by decide +kernel) hc ?_
    rw [e7]
    refine WP_if c2_ge (fun q => ?_) (fun q => ?_)
    · rw [decide_eq_false (Int32.not_lt.mpr q)]
      exact WP_some rfl
    · rw [decide_eq_true (Int32.not_le.mp q)]
      exact WP_some rfl
  obtain ⟨x, h1, h2⟩ := g
  rw [h1, h2]
theorem M_resign {σ : RS} {a : AA} {u : AU} {c : Nat} (h : RM σ a u) (hc : c < 8) (hb : ¬ aS a 124 c = 0) : WP (m_resign σ (Int32.ofNat c)) (fun τ => RM τ (A_resign a c) u) := by
  unfold m_resign m_resign_b0 m_resign_b15 m_resign_b30 A_resign
  refine WP_eq (m_isCommand_e h hc hb) ?_
  cases q : aCmd a c with
  | false =>
    refine WP_if c0_eq (fun _ => ?_) (fun y => absurd rfl y)
    refine WP_eq (m_isCommand_e h hc hb) ?_
    rw [q]
    refine WP_if c0_eq (fun _ => ?_) (fun y => absurd rfl y)
    exact WP_call (M_tellClient h hc hb) (fun p hp => WP_some hp)
  | true =>
    refine WP_if c0_eq (fun y => absurd (show (1 : Int32) = 0 from y) (by decide)) (fun _ => ?_)
    refine WP_w8 h (by decide) (by decide) hc (fun σ1 h1 => ?_)
    have hb1 : ¬ aS (aI a 126 c (-1)) 124 c = 0 := hb
    refine WP_eq (m_isCommand_e h1 hc hb1) ?_
    rw [show aCmd (aI a 126 c (-1)) c = true from q]
    refine WP_if c0_eq (fun y => absurd (show (1 : Int32) = 0 from y) (by decide)) (fun _ => ?_)
    exact WP_call (M_tellClient h1 hc hb1) (fun p hp => WP_some hp)
theorem M_pause {σ : RS} {a : AA} {u : AU} {c : Nat} {t : Int32} (h : RM σ a u) (hc : c < 8) : WP (m_pause σ (Int32.ofNat c) t) (fun τ => RM τ (A_pause a c t) u) := by
  unfold m_pause A_pause
  rw [show (8 : Int32) + Int32.ofNat c = Int32.ofNat (8 + c) from i_ad (c := 8), show σ.1 1 0 = aNow a from RM_0 h (by decide)]
  refine WP_call (M_alarm h (by omega)) (fun p hp => ?_)
  exact WP_w8 hp (by decide) (by decide) hc (fun σ1 h1 => WP_some h1)
