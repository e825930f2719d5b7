theorem AFr_reads {s : Nat} {c : Int32} : ∀ (l : List AQ) (a : AA), AFr [2, 21, 22] [0, 1, 9] a (aReads s c l a) := by
  intro l
  induction l with
  | nil => exact fun a => AFr_w AFr_r (by decide) (by decide)
  | cons q r ih =>
    intro a
    unfold aReads
    split
    · exact AFr_w (AFr_t (AFr_t AFr_rq AFr_reply) (ih _)) (by decide) (by decide)
    · exact ih a
theorem AFr_answerReads {a : AA} {s : Nat} : AFr [2, 21, 22] [0, 1, 9] a (A_answerReads a s) := AFr_reads _ _
theorem ap1_76 {a : AA} {s : Nat} {n : Int32} : aS (aApply1 a s n) 76 s = n := by
  have hI : aS (aI a 76 s n) 76 s = n := by rw [aS_I, if_pos ⟨rfl, rfl⟩]
  rw [aApply1_e]
  dsimp only
  split
  · exact hI
  · split
    · rw [AFr_reply.1 76 (by decide)]
      exact hI
    · exact hI
theorem dRq_ap {a : AA} {s : Nat} {n : Int32} (h : dRq a s) : dRq (aApply1 a s n) s := by
  unfold dRq
  rw [ap1_rq]
  exact List.Pairwise.sublist List.filter_sublist h
theorem aApplyN_z {a : AA} {s N : Nat} (h : ¬ aS a 76 s < aS a 75 s) : aApplyN s N a = a := by
  cases N with
  | zero => rfl
  | succ N => exact if_neg h
def apEnd (a : AA) (s : Nat) : AA :=
  let a1 := A_answerReads a s
  if 24 ≤ aS a1 76 s - aBase a1 s then A_compact a1 s else a1
theorem ap_end {F : Nat} {σ : RS} {a : AA} {u : AU} {s : Nat} (hF : 20000 ≤ F) (h : RM σ a u) (hs : s < 7) (hup : aS a 52 s = 1) (hz : u.2 s) (hmk : u.2 (14 + s)) (hmx : (aS a 151 s).toInt < 2147483000) {g : Int32 → Int32 → Option Unit} : WP ((m_answerReads F σ (Int32.ofNat s)).bind fun p56 => (rld p56 76 (Int32.ofNat s)).bind fun x58 => (rld p56 55 (Int32.ofNat s)).bind fun x60 => if xc2 .lt (x58 - x60) ((24 : Int32)) = true then (m_apply_b223 F p56) else ((m_compact F p56 (Int32.ofNat s)).bind fun p63 => m_apply_b223 F p63)) (fun τ => RM τ (apEnd a s) u) := by
  refine WP_call (M_answerReads (by omega) h hs hmx) (fun p hp => ?_)
  refine WP_r7 hp (by decide) hs (WP_r7 hp (by decide) hs ?_)
  have fr := @AFr_answerReads a s
  unfold apEnd
  dsimp only
  generalize A_answerReads a s = a1 at hp fr
  have mk := hp.2.2.2.2.2.2.2.2.2.2.2.2.2.2.2.2.2.2.2.2.2.2.1 s hs hmk
  have wl := RM_wl hp hs
  refine WP_if c2_lt (fun q => ?_) (fun q => ?_)
  · have : ¬ 24 ≤ aS a1 76 s - aBase a1 s := fun y => Int32.not_le.mpr q y
    rw [if_neg this]
    exact WP_some hp
  · have q : 24 ≤ aS a1 76 s - aBase a1 s := Int32.not_lt.mp q
    rw [if_pos q]
    have hhas : aHas a1 s (aS a1 76 s) = true := by
      obtain ⟨m1, m2, m3, m4⟩ := mk
      obtain ⟨w1, w2, w3, w4⟩ := wl
      rw [Int32.le_iff_toInt_le] at m1 m2 m3 q
      rw [i_subI (by omega) (by omega), show (24 : Int32).toInt = 24 by decide] at q
      unfold aHas
      rw [Bool.and_eq_true_iff]
      refine ⟨decide_eq_true (Int32.lt_iff_toInt_lt.mpr (by omega)), decide_eq_true (Int32.le_iff_toInt_le.mpr (by omega))⟩
    refine WP_call (M_compact hF hp hs (by rw [fr.1 52 (by decide)]; exact hup) hz hmk hhas) (fun p2 hp2 => ?_)
    exact WP_some hp2
theorem M_apply {F : Nat} {σ : RS} {a : AA} {u : AU} {s : Nat} (hF : 20000 ≤ F) (h : RM σ a u) (hs : s < 7) (hup : aS a 52 s = 1) (hz : u.2 s) (hmk : u.2 (14 + s)) (hd : dRq a s) (hmx : (aS a 151 s).toInt < 2147483000) : WP (m_apply F σ (Int32.ofNat s)) (fun τ => RM τ (A_apply a s) u) := by
  have key : ∀ (N f : Nat) (σ : RS) (a : AA), N + 1 ≤ f → RM σ a u → aS a 52 s = 1 → dRq a s → (aS a 151 s).toInt < 2147483000 → (aS a 75 s).toInt - (aS a 76 s).toInt ≤ N → WP (m_apply_b0 F f σ (Int32.ofNat s)) (fun τ => RM τ (apEnd (aApplyN s N a) s) u) := by
    intro N
    induction N with
    | zero =>
      intro f σ a hf h hup hd hmx hN
      obtain ⟨f, rfl⟩ : ∃ g, f = g + 1 := ⟨f - 1, by omega⟩
      unfold m_apply_b0
      refine WP_r7 h (by decide) hs (WP_r7 h (by decide) hs ?_)
      refine WP_if c2_ge (fun q => ?_) (fun q => absurd (Int32.le_iff_toInt_le.mpr (by omega)) q)
      exact ap_end (g := fun _ _ => none) hF h hs hup hz hmk hmx
    | succ N ih =>
      intro f σ a hf h hup hd hmx hN
      obtain ⟨f, rfl⟩ : ∃ g, f = g + 1 := ⟨f - 1, by omega⟩
      unfold m_apply_b0
      refine WP_r7 h (by decide) hs (WP_r7 h (by decide) hs ?_)
      refine WP_if c2_ge (fun q => ?_) (fun q => ?_)
      · rw [aApplyN_z (fun y => Int32.not_lt.mpr q y)]
        exact ap_end (g := fun _ _ => none) hF h hs hup hz hmk hmx
      · have q : aS a 76 s < aS a 75 s := Int32.not_le.mp q
        have eN : aApplyN s (N + 1) a = aApplyN s N (aApply1 a s (aS a 76 s + 1)) := if_pos q
        rw [eN]
        have mk := h.2.2.2.2.2.2.2.2.2.2.2.2.2.2.2.2.2.2.2.2.2.2.1 s hs hmk
        have wl := RM_wl h hs
        have qi := Int32.lt_iff_toInt_lt.mp q
        have m1 := Int32.le_iff_toInt_le.mp mk.1
        have m2 := Int32.le_iff_toInt_le.mp mk.2.1
        have m3 := Int32.le_iff_toInt_le.mp mk.2.2.1
        obtain ⟨w1, w2, w3, w4⟩ := id wl
        have en : (aS a 76 s + 1).toInt = (aS a 76 s).toInt + 1 := by
          rw [i_addI (by rw [i_1]; omega) (by rw [i_1]; omega), i_1]
        have hhas : aHas a s (aS a 76 s + 1) = true := by
          unfold aHas
          rw [Bool.and_eq_true_iff]
          exact ⟨decide_eq_true (Int32.lt_iff_toInt_lt.mpr (by omega)), decide_eq_true (Int32.le_iff_toInt_le.mpr (by omega))⟩
        obtain ⟨i, hi, e1, e2, e3⟩ := aHas_i wl hhas
        have eent : aEnt a s (aS a 76 s + 1) = (aLg a s).getD i aE0 := by
          unfold aEnt
          rw [e2]
          rfl
        refine WP_r7 h (by decide) hs ?_
        generalize aS a 76 s + 1 = n at en hhas e1 e2 e3 eent
        refine WP_wmk h (Or.inr (Or.inl rfl)) hs (fun _ k => ?_) (fun σ1 h1 => ?_)
        · have t76 : aS (aI a 76 s n) 76 s = n := by rw [aS_I, if_pos ⟨rfl, rfl⟩]
          unfold WMk
          rw [show aBase (aI a 76 s n) s = aBase a s from rfl, show aLast (aI a 76 s n) s = aLast a s from rfl, show aS (aI a 76 s n) 75 s = aS a 75 s from rfl, show aS (aI a 76 s n) 77 s = aS a 77 s from rfl, t76]
          exact ⟨Int32.le_iff_toInt_le.mpr (by omega), Int32.le_iff_toInt_le.mpr (by omega), k.2.2.1, k.2.2.2⟩
        have hent := RM_ent h1 hs (i := i) hi
        rw [show aBase (aI a 76 s n) s = aBase a s from rfl, ← e1, show aLg (aI a 76 s n) s = aLg a s from rfl, ← eent, show aAk (aI a 76 s n) = aAk a from rfl] at hent
        obtain ⟨n59, n60, n61, n5, n6, n7⟩ := hent
        refine WP_r7 h1 (by decide) hs ?_
        rw [show aS (aI a 76 s n) 76 s = n by rw [aS_I, if_pos ⟨rfl, rfl⟩]]
        refine WP_eq m_logOf_n ?_
        refine WP_ld rfl 3584 (by decide +kernel) (rLp_lt (n := n) hs) ?_
        rw [show σ1.1 60 (512 * s + rMod n) = _ from n60]
        have nx : ∀ τ', RM τ' (aApply1 a s n) u → WP (m_apply_b0 F f τ' (Int32.ofNat s)) (fun τ => RM τ (apEnd (aApplyN s N (aApply1 a s n)) s) u) := by
          intro τ' hτ'
          have fr := @AFr_apply1 a s n
          refine ih f τ' _ (by omega) hτ' (by rw [fr.1 52 (by decide)]; exact hup) (dRq_ap hd) (by rw [fr.1 151 (by decide)]; exact hmx) ?_
          rw [fr.1 75 (by decide), ap1_76]
          omega
        refine WP_if c2_ne (fun q2 => ?_) (fun q2 => ?_)
        · unfold m_apply_b53
          refine WP_if c0_eq (fun _ => ?_) (fun y => absurd rfl y)
          have er : apR a s n = (aMc a s, 0, 0, []) := if_neg q2
          refine ap_slots (d := false) (b := aI a 76 s n) (by omega) hs h1 ?_ hd (decide_eq_false q2).symm n59 (fun y => nomatch y) ?_ nx
          · rw [er]
            exact (aMcS_same (a := aI a 76 s n) (s := s)).symm
          · rw [er]
            exact fun x hx => absurd hx List.not_mem_nil
        · have q2 := Classical.not_not.mp q2
          unfold m_apply_b53
          refine WP_if c0_eq (fun y => absurd y (by decide)) (fun _ => ?_)
          have er : apR a s n = aPerf (aAk a) (aMc a s) n (aEnt a s n) := if_pos q2
          have hmc : RMc σ1 s (aMc a s) := h1.2.2.2.2.2.2.2.2.2.1 s hs
          refine WP_call (m_perform_n (K := aAk a) (by omega) hs hmc (h1.2.2.2.2.2.2.2.2.2.2.2.2.2.1).2.2.1 n5 q2 n6 n61 n7) (fun τ1 hq => ?_)
          obtain ⟨q3, q4, q5, q6⟩ := hq
          refine ap_slots (d := true) (b := aMcS (aI a 76 s n) s (aPerf (aAk a) (aMc a s) n (aEnt a s n)).1) (by omega) hs (RM_mc h1 q3 q4) (by rw [er]) hd (decide_eq_true q2).symm ?_ (fun _ => by rw [er]; exact ⟨q5, q6⟩) ?_ nx
          · rw [(SLp_Fr q3).1 59 (by decide)]
            exact n59
          · rw [er]
            exact aPerf_b hmc.1
  show WP (m_apply_b0 F F σ (Int32.ofNat s)) _
  have mk := h.2.2.2.2.2.2.2.2.2.2.2.2.2.2.2.2.2.2.2.2.2.2.1 s hs hmk
  have wl := RM_wl h hs
  have m1 := Int32.le_iff_toInt_le.mp mk.1
  have m3 := Int32.le_iff_toInt_le.mp mk.2.2.1
  obtain ⟨w1, w2, w3, w4⟩ := id wl
  exact key 300 F σ a (by omega) h hup hd hmx (by omega)
