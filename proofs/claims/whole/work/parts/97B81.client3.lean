/-! clients hear -/
theorem rem7 {x : Int32} (h : aInR x 0 6 = true) : x + 1 - (x + 1) / 7 * 7 = if x + 1 < 7 then x + 1 else 0 := by
  obtain ⟨n, h1, h2⟩ := in_nat2 (hi := 6) (by omega) h
  rw [h1]
  have : ∀ n, n < 7 → Int32.ofNat n + 1 - (Int32.ofNat n + 1) / 7 * 7 = if Int32.ofNat n + 1 < 7 then Int32.ofNat n + 1 else 0 := by decide
  exact this n (by omega)
theorem turn7 {x : Int32} (h : aInR x 0 6 = true) : aInR (if x + 1 < 7 then x + 1 else 0) 0 6 = true := by
  obtain ⟨n, h1, h2⟩ := in_nat2 (hi := 6) (by omega) h
  rw [h1]
  have : ∀ n, n < 7 → aInR (if Int32.ofNat n + 1 < 7 then Int32.ofNat n + 1 else 0) 0 6 = true := by decide
  exact this n (by omega)
theorem M_ringClient {F : Nat} {σ : RS} {a : AA} {u : AU} {c : Nat} (hF : 500 ≤ F) (h : RM σ a u) (hc : c < 8) (hb : ¬ aS a 124 c = 0) (ht : aInR (aS a 125 c) 0 6 = true) : WP (m_ringClient F σ (Int32.ofNat c)) (fun τ => RM τ (A_ringClient a c) u) := by
  unfold m_ringClient m_ringClient_b0 m_ringClient_b26 A_ringClient
  refine WP_r8 h (by decide) hc ?_
  refine WP_if c0_eq (fun q => ?_) (fun q => ?_)
  · rw [if_pos q]
    exact WP_call (M_demand hF h hc hb ht) (fun p hp => WP_some hp)
  · rw [if_neg q]
    refine WP_r8 h (by decide) hc ?_
    rw [if_neg (by decide), rem7 ht]
    refine WP_w8 h (by decide) (by decide) hc (fun σ1 h1 => ?_)
    have e125 : aS (aI a 125 c (if aS a 125 c + 1 < 7 then aS a 125 c + 1 else 0)) 125 c = if aS a 125 c + 1 < 7 then aS a 125 c + 1 else 0 := if_pos ⟨rfl, rfl⟩
    refine WP_call (M_demand hF h1 hc hb (by rw [e125]; exact turn7 ht)) (fun p hp => WP_some hp)
theorem RM_dn {σ σ' : RS} {a : AA} {u : AU} {c : Nat} {t : List Int32} (h : RM σ a u) (hF : Fr [138, 139] [] σ σ') (ho : ∀ d, d < 8 → d ≠ c → σ'.1 139 d = σ.1 139 d ∧ ∀ i, i < 160 → σ'.1 138 (160 * d + i) = σ.1 138 (160 * d + i)) (hn : RDn σ' c t) : RM σ' (aDnS a c t) u := by
  have hdn : ∀ d, d < 8 → RDn σ' d (aDn (aDnS a c t) d) := by
    intro d hd
    show RDn σ' d (if d = c then t else aDn a d)
    by_cases q : d = c
    · rw [if_pos q, q]
      exact hn
    · rw [if_neg q]
      obtain ⟨z1, z2, z3⟩ := h.2.2.2.2.2.2.2.2.2.2.2.2.2.2.2.2.2.1 d hd
      obtain ⟨o1, o2⟩ := ho d hd q
      exact ⟨o1.trans z1, z2, fun i hi => (o2 i (by omega)).trans (z3.1 i hi), z3.2⟩
  exact ⟨RSc_fr hF (by decide) h.1, RWay_fr hF (by decide) h.2.1, fun s hs => RWt_fr hF (by decide) (h.2.2.1 s hs), fun l hl => RLt_fr hF (by decide) (h.2.2.2.1 l hl), fun s hs => RLog_fr hF (by decide) (h.2.2.2.2.1 s hs), fun s hs => RDk_fr hF (by decide) (h.2.2.2.2.2.1 s hs), fun s hs => RSl_fr hF (by decide) (h.2.2.2.2.2.2.1 s hs), fun s hs hu => RCh_fr hF (by decide) (h.2.2.2.2.2.2.2.1 s hs hu), fun s hs hu => RAt_fr hF (by decide) (h.2.2.2.2.2.2.2.2.1 s hs hu), fun s hs => RMc_fr hF (by decide) (h.2.2.2.2.2.2.2.2.2.1 s hs), fun s hs => RSh_fr hF (by decide) (h.2.2.2.2.2.2.2.2.2.2.1 s hs), fun s hs => RPc_fr hF (by decide) (h.2.2.2.2.2.2.2.2.2.2.2.1 s hs), fun s hs => RRq_fr hF (by decide) (h.2.2.2.2.2.2.2.2.2.2.2.2.1 s hs), RAk_fr hF (by decide) h.2.2.2.2.2.2.2.2.2.2.2.2.2.1, fun s hs => RWn_fr hF (by decide) (h.2.2.2.2.2.2.2.2.2.2.2.2.2.2.1 s hs), RTp_fr hF (by decide) h.2.2.2.2.2.2.2.2.2.2.2.2.2.2.2.1, RRe_fr hF (by decide) h.2.2.2.2.2.2.2.2.2.2.2.2.2.2.2.2.1, hdn, RSum_fr hF (by decide) h.2.2.2.2.2.2.2.2.2.2.2.2.2.2.2.2.2.2.1, h.2.2.2.2.2.2.2.2.2.2.2.2.2.2.2.2.2.2.2.1, h.2.2.2.2.2.2.2.2.2.2.2.2.2.2.2.2.2.2.2.2.1, h.2.2.2.2.2.2.2.2.2.2.2.2.2.2.2.2.2.2.2.2.2.1, h.2.2.2.2.2.2.2.2.2.2.2.2.2.2.2.2.2.2.2.2.2.2.1, h.2.2.2.2.2.2.2.2.2.2.2.2.2.2.2.2.2.2.2.2.2.2.2⟩
/-- how a reply's letter fits -/
def rpOK (l : AL) : Prop := l.1 4 = 11 ∧ l.2.2.1.length ≤ 160 ∧ (l.1 6 = 1 → 0 ≤ l.1 7 → aInR (l.1 7) 0 6 = true)
theorem td11 {σ : RS} {a : AA} {u : AU} {l : AL} (h : RM σ a u) (hl : u.1.1 = some l) (h11 : l.1 4 = 11) : σ.1 9 353 = l.1 5 ∧ σ.1 12 2824 = l.1 6 ∧ σ.1 12 2825 = l.1 7 ∧ (l.1 6 = 0 → σ.1 12 2826 = Int32.ofNat l.2.2.1.length) ∧ ∀ y, y < l.2.2.1.length → rLb σ 353 y = l.2.2.1.getD y 0 := by
  obtain ⟨_, _, _, e9, _, _, _, _, g, gb, _⟩ := h_inl h hl
  have e : ∀ j, lTd (aAk a) l j = if l.1 6 = 0 then [l.1 6, l.1 7, Int32.ofNat l.2.2.1.length][j]? else [l.1 6, l.1 7][j]? := by
    intro j
    unfold lTd
    dsimp only
    rw [if_neg (by rw [h11]; decide), if_neg (by rw [h11]; decide), if_neg (by rw [h11]; decide), if_neg (by rw [h11]; decide), if_neg (by rw [h11]; decide), if_neg (by rw [h11]; decide), if_neg (by rw [h11]; decide), if_pos h11]
  refine ⟨e9, g 0 _ ?_, g 1 _ ?_, fun y => g 2 _ ?_, fun y hy => gb y _ ?_⟩
  · rw [e]
    split <;> rfl
  · rw [e]
    split <;> rfl
  · rw [e, if_pos y]
    rfl
  · have : lBs (aAk a) l = l.2.2.1 := by
      unfold lBs
      rw [if_neg (by rw [h11]; decide), if_neg (by rw [h11]; decide), if_pos h11]
    rw [this, List.getD_eq_getElem?_getD, List.getElem?_eq_getElem hy]
    rfl
theorem M_reply {F : Nat} {σ : RS} {a : AA} {u : AU} {c : Nat} {l : AL} (hF : 500 ≤ F) (h : RM σ a u) (hc : c < 8) (hl : u.1.1 = some l) (hok : rpOK l) (ht : aInR (aS a 125 c) 0 6 = true) : WP (m_reply F σ (Int32.ofNat c)) (fun τ => RM τ (A_hear a c l) u) := by
  obtain ⟨h11, h160, h17⟩ := hok
  obtain ⟨t9, t24, t25, t26, bys⟩ := td11 h hl h11
  unfold m_reply m_reply_b0
  refine WP_r8 h (by decide) hc ?_
  refine WP_if c0_eq (fun q => ?_) (fun q => ?_)
  · have e : A_hear a c l = a := by
      unfold A_hear
      rw [if_pos (Or.inl q)]
    rw [e]
    exact WP_some h
  · refine WP_ld (n := 353) rfl 354 (by decide +kernel) (by omega) ?_
    refine WP_r8 h (by decide) hc ?_
    rw [t9]
    refine WP_if c2_eq (fun q2 => ?_) (fun q2 => ?_)
    · have eA : A_hear a c l = (if l.1 6 = 0 then
        if aS a 131 c = 0 then aTellClient (aDnS a c l.2.2.1) c 1 (l.1 7)
        else A_demand (aAdd (aI (aI (aI a 131 c 0) 126 c (l.1 7)) 127 c 1) 128 c 1) c
      else if l.1 6 = 1 then
        if 0 ≤ l.1 7 then A_demand (aI a 125 c (l.1 7)) c else A_pause (aTurn a c) c 5
      else if l.1 6 = 2 then aTellClient (aI a 126 c (-1)) c 2 (-1)
      else A_pause a c 20) := by
        unfold A_hear
        rw [if_neg (fun y => y.elim q (fun z => z q2))]
      rw [eA]
      refine WP_ld (n := 2825) rfl 2832 (by decide +kernel) (by omega) ?_
      refine WP_ld (n := 2824) rfl 2832 (by decide +kernel) (by omega) ?_
      rw [t24, t25]
      refine WP_if Iff.rfl (fun k0 => ?_) (fun k0 => ?_)
      · rw [if_pos k0]
        refine WP_r8 h (by decide) hc ?_
        refine WP_if c0_eq (fun q3 => ?_) (fun q3 => ?_)
        · rw [if_pos q3]
          refine WP_ld (n := 2826) rfl 2832 (by decide +kernel) (by omega) ?_
          rw [t26 k0]
          refine WP_st rfl 8 (by decide +kernel) hc ?_
          have loop : ∀ n j (τ : RS), l.2.2.1.length + 1 ≤ j + n → j ≤ l.2.2.1.length → Fr [138, 139] [] σ τ → τ.1 139 c = Int32.ofNat l.2.2.1.length → (∀ d, d < 8 → d ≠ c → τ.1 139 d = σ.1 139 d ∧ ∀ i, i < 160 → τ.1 138 (160 * d + i) = σ.1 138 (160 * d + i)) → (∀ y, y < j → τ.1 138 (160 * c + y) = l.2.2.1.getD y 0) → WP (m_reply_b136 F n τ (Int32.ofNat c) (l.1 7) (Int32.ofNat j)) (fun τ => RM τ (aTellClient (aDnS a c l.2.2.1) c 1 (l.1 7)) u) := by
            intro n
            induction n with
            | zero => intro j τ h1 h2; omega
            | succ n ih =>
              intro j τ h1 h2 hFr e139 ho hy
              unfold m_reply_b136
              refine WP_ld rfl 8 (by decide +kernel) hc ?_
              rw [e139]
              refine WP_if (i_gei (by omega) (by omega)) (fun z => ?_) (fun z => ?_)
              · have : j = l.2.2.1.length := by omega
                subst this
                have low : ∀ b ∈ l.2.2.1, aLow8 b = b := by
                  intro b hb
                  obtain ⟨y, hy2, rfl⟩ := List.getElem_of_mem hb
                  have e1 := bys y hy2
                  rw [List.getD_eq_getElem?_getD, List.getElem?_eq_getElem hy2] at e1
                  have e2 : rLb σ 353 y = l.2.2.1[y] := e1
                  rw [← e2]
                  exact rB_8
                have h1 := RM_dn h hFr ho ⟨e139, h160, fun i hi => hy i hi, low⟩
                have hb1 : ¬ aS (aDnS a c l.2.2.1) 124 c = 0 := q
                unfold m_reply_b252
                exact WP_call (M_tellClient h1 hc hb1) (fun p hp => WP_some hp)
              · rw [show (542208 : Int32) + Int32.ofNat j = Int32.ofNat (1536 * 353 + j) by
                  rw [show (542208 : Int32) = Int32.ofNat (1536 * 353) from rfl, i_ad], show (160 : Int32) * Int32.ofNat c + Int32.ofNat j = Int32.ofNat (160 * c + j) from i_ma (c := 160)]
                refine WP_eq (m_inLetter_n (by omega)) ?_
                refine WP_st rfl 1280 (by decide +kernel) (by omega) ?_
                rw [i_s]
                have hv : (rB (τ.2 16) (1536 * 353 + j)).toInt8.toInt32 = l.2.2.1.getD j 0 := by
                  rw [rB_8, hFr.2 16 (by decide)]
                  exact bys j (by omega)
                rw [hv]
                refine ih (j + 1) _ (by omega) (by omega) (Fr_w (Fr_t hFr Fr_I) (by simp) (by simp)) (by rw [setI_f (by decide)]; exact e139) (fun d hd hdc => ⟨by rw [setI_f (by decide)]; exact (ho d hd hdc).1, fun i hi => by rw [setI_i (by omega)]; exact (ho d hd hdc).2 i hi⟩) (fun y hy2 => ?_)
                by_cases z2 : y = j
                · rw [z2, setI_e]
                · rw [setI_i (by omega)]
                  exact hy y (by omega)
          exact loop F 0 _ (by omega) (Nat.zero_le _) (Fr_w (Fr_I (f := 139)) (by simp) (by simp)) setI_e (fun d hd hdc => ⟨setI_i hdc, fun i _ => setI_f (by decide)⟩) (fun y hy => absurd hy (Nat.not_lt_zero _))
        · rw [if_neg q3]
          refine WP_w8 h (by decide) (by decide) hc (fun σ1 h1 => ?_)
          refine WP_w8 h1 (by decide) (by decide) hc (fun σ2 h2 => ?_)
          refine WP_w8 h2 (by decide) (by decide) hc (fun σ3 h3 => ?_)
          refine WP_r8 h3 (by decide) hc ?_
          refine WP_w8 h3 (by decide) (by decide) hc (fun σ4 h4 => ?_)
          unfold m_reply_b252
          exact WP_call (M_demand hF h4 hc q ht) (fun p hp => WP_some hp)
      · rw [if_neg k0]
        refine WP_if Iff.rfl (fun k1 => ?_) (fun k1 => ?_)
        · rw [if_pos k1]
          refine WP_if c0_lt (fun q3 => ?_) (fun q3 => ?_)
          · rw [if_neg (Int32.not_le.mpr q3)]
            refine WP_r8 h (by decide) hc ?_
            rw [if_neg (by decide), rem7 ht]
            refine WP_w8 h (by decide) (by decide) hc (fun σ1 h1 => ?_)
            unfold m_reply_b252
            exact WP_call (M_pause h1 hc) (fun p hp => WP_some hp)
          · have q3 : 0 ≤ l.1 7 := Int32.not_lt.mp q3
            rw [if_pos q3]
            refine WP_w8 h (by decide) (by decide) hc (fun σ1 h1 => ?_)
            unfold m_reply_b252
            have e125 : aS (aI a 125 c (l.1 7)) 125 c = l.1 7 := if_pos ⟨rfl, rfl⟩
            exact WP_call (M_demand hF h1 hc q (by rw [e125]; exact h17 k1 q3)) (fun p hp => WP_some hp)
        · rw [if_neg k1]
          refine WP_if Iff.rfl (fun k2 => ?_) (fun k2 => ?_)
          · rw [if_pos k2]
            refine WP_w8 h (by decide) (by decide) hc (fun σ1 h1 => ?_)
            unfold m_reply_b252
            exact WP_call (M_tellClient h1 hc q) (fun p hp => WP_some hp)
          · rw [if_neg k2]
            unfold m_reply_b252
            exact WP_call (M_pause h hc) (fun p hp => WP_some hp)
    · have e : A_hear a c l = a := by
        unfold A_hear
        rw [if_pos (Or.inr q2)]
      rw [e]
      exact WP_some h
