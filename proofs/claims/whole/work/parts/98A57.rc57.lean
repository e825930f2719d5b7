/-! letters that ask and answer for votes -/
theorem LR_f {c : CS} {ad : Nat} {l : AL} (h : LR c ad l) {k : Int32} (hk : l.1 4 = k) {j : Nat} (hj : j ∈ lFs k) : cI c 8 ad j 0 = l.1 j := h.2.1 j (by rw [hk]; exact hj)
theorem i_sh31 {x : Int32} (hf : aInR x 0 6 = true ∨ aInR x 8 15 = true) : (1 : Int32) <<< (x &&& 31) = 1 <<< x := by
  have hx : ∃ n, n ≤ 15 ∧ x = Int32.ofNat n := by
    rcases hf with z | z
    · obtain ⟨n, e, h⟩ := in_nat2 (hi := 6) (by omega) z
      exact ⟨n, by omega, e⟩
    · unfold aInR at z
      rw [Bool.and_eq_true_iff] at z
      have z1 := of_decide_eq_true z.1
      have z2 := of_decide_eq_true z.2
      have z0 : (0 : Int32) ≤ x := Int32.le_trans (by decide) z1
      refine ⟨x.toNatClampNeg, ?_, i_of z0⟩
      have e := i_of z0
      rw [e, show (15 : Int32) = Int32.ofNat 15 from rfl] at z2
      have hb : x.toNatClampNeg < 2147483648 := by
        have := i_nat z0
        have := Int32.toInt_lt x
        omega
      exact (i_ltn hb (by omega)).mp z2
  obtain ⟨n, hn, rfl⟩ := hx
  exact (by decide : ∀ n, n < 16 → (1 : Int32) <<< (Int32.ofNat n &&& 31) = 1 <<< Int32.ofNat n) n (by omega)
theorem K_isAsNew {c : CS} {a : AA} {v : CV} {s ad : Nat} {l : AL} (h : RC c a v) (hs : s < 7) (w : WLg a s) (hl : LR c ad l) (hk : l.1 4 = 1 ∨ l.1 4 = 3) : k_Server_isAsNew c s ad = some (aB (aAsNew a s (l.1 7) (l.1 8))) := by
  have e7 : cI c 8 ad 7 0 = l.1 7 := by
    rcases hk with z | z
    · exact LR_f hl z (by rw [lF1]; decide)
    · exact LR_f hl z (by rw [lF3]; decide)
  have e8 : cI c 8 ad 8 0 = l.1 8 := by
    rcases hk with z | z
    · exact LR_f hl z (by rw [lF1]; decide)
    · exact LR_f hl z (by rw [lF3]; decide)
  unfold k_Server_isAsNew k_Server_isAsNew_b0 k_Server_isAsNew_b45 k_Server_isAsNew_b49 k_Server_isAsNew_b50 aAsNew
  rw [K_termAt h hs w, Option.bind_some, K_r h (F := 56) (cl := 9) (f := 6) (by decide) hs, e7, e8, if_pos (show (0 : Int32) = 0 ∨ (0 : Int32) = 1 from Or.inl rfl), if_pos (show (1 : Int32) = 0 ∨ (1 : Int32) = 1 from Or.inr rfl)]
  have et : aLastTerm a s = aTermAt a s (aS a 56 s) := rfl
  rw [← et]
  have eL : aLast a s = aS a 56 s := rfl
  rw [eL]
  by_cases q1 : aLastTerm a s < l.1 8
  · rw [if_pos (c2_gt.mpr q1), decide_eq_true q1]
    rfl
  · rw [if_neg (fun z => q1 (c2_gt.mp z)), decide_eq_false q1]
    by_cases q2 : l.1 8 = aLastTerm a s
    · rw [if_neg (fun z => c2_ne.mp z q2), decide_eq_true q2]
      by_cases q3 : aS a 56 s ≤ l.1 7
      · rw [if_neg (fun z => (i_nlt.mpr q3) (c2_lt.mp z)), decide_eq_true q3]
        rfl
      · rw [if_pos (c2_lt.mpr (i_nle.mp q3)), decide_eq_false q3]
        rfl
    · rw [if_pos (c2_ne.mpr q2), decide_eq_false q2]
      rfl
theorem K_preask {F : Nat} {c : CS} {a : AA} {s ad : Nat} {l : AL} {H : List (Nat × Option AL)} {U : Nat → Int32} {N : Nat × Nat} (hF : 130 ≤ F) (h : RC c a (((ad, some l) :: H, U), N)) (hs : s < 7) (w : WLg a s) (hk : l.1 4 = 1) (hf : aInR (l.1 2) 0 6 = true ∨ aInR (l.1 2) 8 15 = true) (h78 : aS a 78 s = -2000000000 ∨ 0 ≤ aS a 78 s) (hH : H.length ≤ 4) : WP (k_Server_takePreask F c s ad) (fun c' => RC c' (A_preask a s l) (((ad, some l) :: H, U), N)) := by
  have hl := RC_hand h List.mem_cons_self
  have e2 : cI c 8 ad 2 0 = l.1 2 := hl.1 2 (by decide)
  have e5 : cI c 8 ad 5 0 = l.1 5 := hl.1 5 (by decide)
  have hd := h.2.2.1 s hs
  unfold KHd at hd
  unfold k_Server_takePreask k_Server_takePreask_b0 k_Server_takePreask_b52 k_Server_takePreask_b56 k_Server_takePreask_b57 k_Server_takePreask_b79
  rw [K_isAsNew h hs w hl (Or.inl hk), K_r h (F := 53) (cl := 13) (f := 10) (by decide) hs, K_r h (F := 73) (cl := 13) (f := 12) (by decide) hs, show cI c 14 0 0 0 = aNow a from K_r h (F := 1) (cl := 14) (f := 0) (by decide) (by decide), e2, e5, hd]
  have no : (decide (aS a 53 s < l.1 5) && aAsNew a s (l.1 7) (l.1 8) && !decide (aS a 73 s = 3) && (decide (aS a 78 s = -2000000000) || decide (aS a 78 s ≤ aNow a - 50))) = false → WP (if xc0 .eq (0 : Int32) = true then (k_Server_sendVote F c s (l.1 2) 2 (aS a 53 s) 0).bind fun p1 => some p1 else (k_Server_sendVote F c s (l.1 2) 2 (l.1 5) 0).bind fun p1 => some p1) (fun c' => RC c' (A_preask a s l) (((ad, some l) :: H, U), N)) := by
    intro e
    rw [if_pos (show xc0 .eq (0 : Int32) = true by decide)]
    have eA : A_preask a s l = aVote a s (l.1 2) 2 (aS a 53 s) false := by
      unfold A_preask
      dsimp only
      rw [e]
      rfl
    rw [eA]
    exact WP_call (K_vote (b := false) hF h hs (Or.inl rfl) hf (by rw [List.length_cons]; omega)) (fun c1 h1 => WP_some h1)
  have yes : (decide (aS a 53 s < l.1 5) && aAsNew a s (l.1 7) (l.1 8) && !decide (aS a 73 s = 3) && (decide (aS a 78 s = -2000000000) || decide (aS a 78 s ≤ aNow a - 50))) = true → WP (if xc0 .eq (1 : Int32) = true then (k_Server_sendVote F c s (l.1 2) 2 (aS a 53 s) 1).bind fun p1 => some p1 else (k_Server_sendVote F c s (l.1 2) 2 (l.1 5) 1).bind fun p1 => some p1) (fun c' => RC c' (A_preask a s l) (((ad, some l) :: H, U), N)) := by
    intro e
    rw [if_neg (show ¬ xc0 .eq (1 : Int32) = true by decide)]
    have eA : A_preask a s l = aVote a s (l.1 2) 2 (l.1 5) true := by
      unfold A_preask
      dsimp only
      rw [e]
      rfl
    rw [eA]
    exact WP_call (K_vote (b := true) hF h hs (Or.inl rfl) hf (by rw [List.length_cons]; omega)) (fun c1 h1 => WP_some h1)
  by_cases q1 : aS a 53 s < l.1 5
  · rw [decide_eq_true q1] at no yes
    rw [if_neg (fun z => (i_nle.mpr q1) (c2_le.mp z))]
    refine WP_b ?_
    by_cases q2 : aAsNew a s (l.1 7) (l.1 8) = true
    · rw [q2] at no yes ⊢
      rw [if_neg (show ¬ xc0 .eq (aB true) = true by decide)]
      by_cases q3 : aS a 73 s = 3
      · rw [if_pos (c2_eq.mpr q3)]
        exact no (by rw [decide_eq_true q3]; rfl)
      · rw [if_neg (fun z => q3 (c2_eq.mp z))]
        rw [decide_eq_false q3] at no yes
        by_cases q4 : aS a 78 s = -2000000000
        · rw [if_pos q4, if_pos (show xc2 .eq (-1 : Int32) (-1) = true by decide)]
          exact yes (by rw [decide_eq_true q4]; rfl)
        · rw [if_neg q4]
          have h0 : 0 ≤ aS a 78 s := h78.resolve_left q4
          rw [if_neg (fun z => by
            rw [c2_eq.mp z] at h0
            exact absurd h0 (by decide))]
          rw [decide_eq_false q4] at no yes
          by_cases q5 : aS a 78 s ≤ aNow a - 50
          · rw [if_neg (fun z => (i_nlt.mpr q5) (c2_gt.mp z))]
            exact yes (by rw [decide_eq_true q5]; rfl)
          · rw [if_pos (c2_gt.mpr (i_nle.mp q5))]
            exact no (by rw [decide_eq_false q5]; rfl)
    · have q2' : aAsNew a s (l.1 7) (l.1 8) = false := by simpa using q2
      rw [q2'] at no ⊢
      rw [if_pos (show xc0 .eq (aB false) = true by decide)]
      exact no rfl
  · rw [if_pos (c2_le.mpr (i_nlt.mp q1))]
    exact no (by rw [decide_eq_false q1]; rfl)
/-- an answer to a question asked ahead: how far it goes, what is due -/
theorem K_preanswer {c : CS} {a : AA} {s ad : Nat} {l : AL} {H : List (Nat × Option AL)} {U : Nat → Int32} {N : Nat × Nat} (h : RC c a (((ad, some l) :: H, U), N)) (hs : s < 7) (hk : l.1 4 = 2) (hf : aInR (l.1 2) 0 6 = true ∨ aInR (l.1 2) 8 15 = true) : WP (k_Server_takePreanswer c s ad) (fun c' => if l.1 6 = 1 ∧ l.1 5 = aS a 53 s + 1 ∧ aS a 73 s = 1 then RC c' (aI a 79 s (aS a 79 s ||| (1 <<< l.1 2))) (((ad, some l) :: H, aU U s (U s ||| (if aMaj (aS a 65 s) (aS a 79 s ||| (1 <<< l.1 2)) then 1 else 0))), N) else RC c' a (((ad, some l) :: H, U), N)) := by
  have hl := RC_hand h List.mem_cons_self
  have e2 : cI c 8 ad 2 0 = l.1 2 := hl.1 2 (by decide)
  have e5 : cI c 8 ad 5 0 = l.1 5 := hl.1 5 (by decide)
  have e6 : cI c 8 ad 6 0 = l.1 6 := LR_f hl hk (by rw [lF2]; decide)
  unfold k_Server_takePreanswer k_Server_takePreanswer_b0 k_Server_takePreanswer_b65
  rw [K_r h (F := 53) (cl := 13) (f := 10) (by decide) hs, K_r h (F := 73) (cl := 13) (f := 12) (by decide) hs, K_r h (F := 79) (cl := 13) (f := 15) (by decide) hs, e2, e5, e6, i_sh31 hf]
  by_cases q1 : l.1 6 = 1
  · rw [if_neg (fun z => c2_ne.mp z q1)]
    by_cases q2 : l.1 5 = aS a 53 s + 1
    · rw [if_neg (fun z => c2_ne.mp z q2)]
      by_cases q3 : aS a 73 s = 1
      · rw [if_neg (fun z => c2_ne.mp z q3)]
        have h1 := RC_I (x := aS a 79 s ||| (1 <<< l.1 2)) h (F := 79) (cl := 13) (f := 15) (i := s) (by decide) (by decide)
        refine WP_b ?_
        rw [csI_e]
        refine WP_eq (K_isMajority h1 hs) ?_
        have e65 : aS (aI a 79 s (aS a 79 s ||| (1 <<< l.1 2))) 65 s = aS a 65 s := rfl
        rw [e65]
        cases hm : aMaj (aS a 65 s) (aS a 79 s ||| (1 <<< l.1 2)) with
        | false =>
          rw [if_pos (show xc0 .eq (aB false) = true by decide)]
          refine WP_some ?_
          rw [if_pos ⟨q1, q2, q3⟩, if_neg (show ¬ false = true by decide), aU_or0]
          exact h1
        | true =>
          rw [if_neg (show ¬ xc0 .eq (aB true) = true by decide)]
          refine WP_b (WP_some ?_)
          rw [if_pos ⟨q1, q2, q3⟩, if_pos (show true = true from rfl)]
          exact K_due h1 hs
      · rw [if_pos (c2_ne.mpr q3)]
        refine WP_some ?_
        rw [if_neg (fun z => q3 z.2.2)]
        exact h
    · rw [if_pos (c2_ne.mpr q2)]
      refine WP_some ?_
      rw [if_neg (fun z => q2 z.2.1)]
      exact h
  · rw [if_pos (c2_ne.mpr q1)]
    refine WP_some ?_
    rw [if_neg (fun z => q1 z.1)]
    exact h
theorem K_answer4 {c : CS} {a : AA} {s ad : Nat} {l : AL} {H : List (Nat × Option AL)} {U : Nat → Int32} {N : Nat × Nat} (h : RC c a (((ad, some l) :: H, U), N)) (hs : s < 7) (hk : l.1 4 = 4) (hf : aInR (l.1 2) 0 6 = true ∨ aInR (l.1 2) 8 15 = true) : WP (k_Server_takeAnswer c s ad) (fun c' => if l.1 6 = 1 ∧ l.1 5 = aS a 53 s ∧ aS a 73 s = 2 then RC c' (aI a 79 s (aS a 79 s ||| (1 <<< l.1 2))) (((ad, some l) :: H, aU U s (U s ||| (if aMaj (aS a 65 s) (aS a 79 s ||| (1 <<< l.1 2)) then 2 else 0))), N) else RC c' a (((ad, some l) :: H, U), N)) := by
  have hl := RC_hand h List.mem_cons_self
  have e2 : cI c 8 ad 2 0 = l.1 2 := hl.1 2 (by decide)
  have e5 : cI c 8 ad 5 0 = l.1 5 := hl.1 5 (by decide)
  have e6 : cI c 8 ad 6 0 = l.1 6 := LR_f hl hk (by rw [lF4]; decide)
  unfold k_Server_takeAnswer k_Server_takeAnswer_b0 k_Server_takeAnswer_b63
  rw [K_r h (F := 53) (cl := 13) (f := 10) (by decide) hs, K_r h (F := 73) (cl := 13) (f := 12) (by decide) hs, K_r h (F := 79) (cl := 13) (f := 15) (by decide) hs, e2, e5, e6, i_sh31 hf]
  by_cases q1 : l.1 6 = 1
  · rw [if_neg (fun z => c2_ne.mp z q1)]
    by_cases q2 : l.1 5 = aS a 53 s
    · rw [if_neg (fun z => c2_ne.mp z q2)]
      by_cases q3 : aS a 73 s = 2
      · rw [if_neg (fun z => c2_ne.mp z q3)]
        have h1 := RC_I (x := aS a 79 s ||| (1 <<< l.1 2)) h (F := 79) (cl := 13) (f := 15) (i := s) (by decide) (by decide)
        refine WP_b ?_
        rw [csI_e]
        refine WP_eq (K_isMajority h1 hs) ?_
        have e65 : aS (aI a 79 s (aS a 79 s ||| (1 <<< l.1 2))) 65 s = aS a 65 s := rfl
        rw [e65]
        cases hm : aMaj (aS a 65 s) (aS a 79 s ||| (1 <<< l.1 2)) with
        | false =>
          rw [if_pos (show xc0 .eq (aB false) = true by decide)]
          refine WP_some ?_
          rw [if_pos ⟨q1, q2, q3⟩, if_neg (show ¬ false = true by decide), aU_or0]
          exact h1
        | true =>
          rw [if_neg (show ¬ xc0 .eq (aB true) = true by decide)]
          refine WP_b (WP_some ?_)
          rw [if_pos ⟨q1, q2, q3⟩, if_pos (show true = true from rfl)]
          exact K_due h1 hs
      · rw [if_pos (c2_ne.mpr q3)]
        refine WP_some ?_
        rw [if_neg (fun z => q3 z.2.2)]
        exact h
    · rw [if_pos (c2_ne.mpr q2)]
      refine WP_some ?_
      rw [if_neg (fun z => q2 z.2.1)]
      exact h
  · rw [if_pos (c2_ne.mpr q1)]
    refine WP_some ?_
    rw [if_neg (fun z => q1 z.1)]
    exact h
/-- a vote is asked for -/
theorem K_ask3 {F : Nat} {c : CS} {a : AA} {s ad : Nat} {l : AL} {H : List (Nat × Option AL)} {U : Nat → Int32} {N : Nat × Nat} (hF : 130 ≤ F) (h : RC c a (((ad, some l) :: H, U), N)) (hs : s < 7) (hup : aS a 52 s = 1) (hl0 : aLoc a) (hm : mdOK a 1) (w : WLg a s) (hk : l.1 4 = 3) (hf : aInR (l.1 2) 0 6 = true ∨ aInR (l.1 2) 8 15 = true) (h54 : aS a 54 s = -1 ∨ 0 ≤ aS a 54 s) (hr : ¬ aS a 73 s = 3 ∨ aS a 54 s = Int32.ofNat s ∧ ¬ l.1 2 = Int32.ofNat s) (hH : H.length ≤ 4) : WP (k_Server_takeAsk F c s ad) (fun c' => RC c' (A_ask a s l) (((ad, some l) :: H, U), N)) := by
  have hl := RC_hand h List.mem_cons_self
  have e2 : cI c 8 ad 2 0 = l.1 2 := hl.1 2 (by decide)
  have e5 : cI c 8 ad 5 0 = l.1 5 := hl.1 5 (by decide)
  unfold k_Server_takeAsk k_Server_takeAsk_b0 k_Server_takeAsk_b30 k_Server_takeAsk_b42 k_Server_takeAsk_b43
  have no : (decide (l.1 5 = aS a 53 s) && (decide (aS a 54 s < 0) || decide (aS a 54 s = l.1 2)) && aAsNew a s (l.1 7) (l.1 8)) = false → WP (if xc0 .eq (0 : Int32) = true then k_Server_takeAsk_b87 F c s ad 0 else if xc2 .eq (cI c 13 s 11 0) (cI c 8 ad 2 0) = true then k_Server_takeAsk_b71 F c s ad 0 else (k_Server_saveTerm c s (cI c 13 s 10 0) (cI c 8 ad 2 0)).bind fun p17 => k_Server_takeAsk_b71 F p17 s ad 0) (fun c' => RC c' (A_ask a s l) (((ad, some l) :: H, U), N)) := by
    intro e
    rw [if_pos (show xc0 .eq (0 : Int32) = true by decide)]
    have eA : A_ask a s l = aVote a s (l.1 2) 4 (aS a 53 s) false := by
      unfold A_ask
      dsimp only
      rw [e]
      rfl
    rw [eA]
    unfold k_Server_takeAsk_b87
    rw [K_r h (F := 53) (cl := 13) (f := 10) (by decide) hs, e2]
    exact WP_call (K_vote (b := false) hF h hs (Or.inr rfl) hf (by rw [List.length_cons]; omega)) (fun c1 h1 => WP_some h1)
  have yes : (decide (l.1 5 = aS a 53 s) && (decide (aS a 54 s < 0) || decide (aS a 54 s = l.1 2)) && aAsNew a s (l.1 7) (l.1 8)) = true → ¬ aS a 73 s = 3 → WP (if xc0 .eq (1 : Int32) = true then k_Server_takeAsk_b87 F c s ad 1 else if xc2 .eq (cI c 13 s 11 0) (cI c 8 ad 2 0) = true then k_Server_takeAsk_b71 F c s ad 1 else (k_Server_saveTerm c s (cI c 13 s 10 0) (cI c 8 ad 2 0)).bind fun p17 => k_Server_takeAsk_b71 F p17 s ad 1) (fun c' => RC c' (A_ask a s l) (((ad, some l) :: H, U), N)) := by
    intro e hr3
    rw [if_neg (show ¬ xc0 .eq (1 : Int32) = true by decide)]
    have eA : A_ask a s l = (let a1 := A_drawAlarm (aI (if aS a 54 s = l.1 2 then a else A_writeSlot (aI a 54 s (l.1 2)) s) 73 s 0) s
        aVote a1 s (l.1 2) 4 (aS a1 53 s) true) := by
      unfold A_ask
      dsimp only
      rw [e]
      rfl
    rw [eA]
    have tail : ∀ c1 b, RC c1 b (((ad, some l) :: H, U), N) → mdOK b 0 → aS b 53 s = aS a 53 s → WP (k_Server_takeAsk_b71 F c1 s ad 1) (fun c' => RC c' (aVote (A_drawAlarm (aI b 73 s 0) s) s (l.1 2) 4 (aS (A_drawAlarm (aI b 73 s 0) s) 53 s) true) (((ad, some l) :: H, U), N)) := by
      intro c1 b h1 hmb e53
      unfold k_Server_takeAsk_b71
      have h2 := RC_73 (x := 0) (s := s) h1 (by decide)
      refine WP_b ?_
      rw [RC_b1 h2 hs]
      refine WP_call (K_drawAlarm h2 hs (mdOK_s hmb rfl)) (fun c2 h3 => ?_)
      unfold k_Server_takeAsk_b87
      have hl2 := RC_hand h3 List.mem_cons_self
      rw [K_r h3 (F := 53) (cl := 13) (f := 10) (by decide) hs, show cI c2 8 ad 2 0 = l.1 2 from hl2.1 2 (by decide)]
      exact WP_call (K_vote (b := true) hF h3 hs (Or.inr rfl) hf (by rw [List.length_cons]; omega)) (fun c3 h4 => WP_some h4)
    rw [K_r h (F := 54) (cl := 13) (f := 11) (by decide) hs, e2, K_r h (F := 53) (cl := 13) (f := 10) (by decide) hs]
    refine WP_if c2_eq (fun q => ?_) (fun q => ?_)
    · rw [if_pos q]
      exact tail c a h (mdOK_w hm (by omega)) rfl
    · rw [if_neg q]
      have hsv := K_saveTerm (x := aS a 53 s) (y := l.1 2) h hs hup hl0 (mdOK_w hm (by omega))
      refine WP_call hsv (fun c1 h1 => ?_)
      have e53 : aI a 53 s (aS a 53 s) = a := aI_same rfl
      rw [e53] at h1
      have fr := @AFr_writeSlot (aI a 54 s (l.1 2)) s
      refine tail c1 _ h1 (mdOK_t (mdOK_s hm rfl : mdOK (aI a 54 s (l.1 2)) 1) MD_writeSlot (by omega)) ?_
      rw [fr.1 53 (by decide)]
      rfl
  rw [K_isAsNew h hs w hl (Or.inr hk)]
  by_cases q1 : l.1 5 = aS a 53 s
  · rw [if_neg (fun z => by
      rw [K_r h (F := 53) (cl := 13) (f := 10) (by decide) hs, e5] at z
      exact c2_ne.mp z q1)]
    rw [decide_eq_true q1] at no yes
    by_cases q2 : aS a 54 s = -1
    · rw [if_pos (by rw [K_r h (F := 54) (cl := 13) (f := 11) (by decide) hs]; exact c2_eq.mpr q2)]
      refine WP_b ?_
      have hlt : decide (aS a 54 s < 0) = true := decide_eq_true (by rw [q2]; decide)
      rw [hlt] at no yes
      cases hn : aAsNew a s (l.1 7) (l.1 8) with
      | false =>
        rw [hn] at no
        rw [if_pos (show xc0 .eq (aB false) = true by decide)]
        exact no rfl
      | true =>
        rw [hn] at yes
        rw [if_neg (show ¬ xc0 .eq (aB true) = true by decide)]
        refine yes rfl (hr.elim id (fun y => absurd (y.1.symm.trans q2) (fun z => ?_)))
        have := congrArg Int32.toInt z
        rw [Int32.toInt_ofNat_of_lt (by omega), show (-1 : Int32).toInt = -1 by decide] at this
        omega
    · rw [if_neg (fun z => by
        rw [K_r h (F := 54) (cl := 13) (f := 11) (by decide) hs] at z
        exact q2 (c2_eq.mp z))]
      have hge : decide (aS a 54 s < 0) = false := decide_eq_false (fun z => (i_nlt.mpr (h54.resolve_left q2)) z)
      rw [hge] at no yes
      by_cases q3 : aS a 54 s = l.1 2
      · rw [if_neg (fun z => by
          rw [K_r h (F := 54) (cl := 13) (f := 11) (by decide) hs, e2] at z
          exact c2_ne.mp z q3)]
        refine WP_b ?_
        rw [decide_eq_true q3] at no yes
        cases hn : aAsNew a s (l.1 7) (l.1 8) with
        | false =>
          rw [hn] at no
          rw [if_pos (show xc0 .eq (aB false) = true by decide)]
          exact no rfl
        | true =>
          rw [hn] at yes
          rw [if_neg (show ¬ xc0 .eq (aB true) = true by decide)]
          exact yes rfl (hr.elim id (fun y => absurd (q3.symm.trans y.1) y.2))
      · rw [if_pos (by rw [K_r h (F := 54) (cl := 13) (f := 11) (by decide) hs, e2]; exact c2_ne.mpr q3)]
        rw [decide_eq_false q3] at no
        exact no rfl
  · rw [if_pos (by rw [K_r h (F := 53) (cl := 13) (f := 10) (by decide) hs, e5]; exact c2_ne.mpr q1)]
    rw [decide_eq_false q1] at no
    exact no rfl
/-- a go: the campaign may be due -/
theorem K_go {c : CS} {a : AA} {s ad : Nat} {l : AL} {H : List (Nat × Option AL)} {U : Nat → Int32} {N : Nat × Nat} (h : RC c a (((ad, some l) :: H, U), N)) (hs : s < 7) (hr : aS a 73 s = 0 ∨ aS a 73 s = 1 ∨ aS a 73 s = 2 ∨ aS a 73 s = 3) : WP (k_Server_takeGo c s ad) (fun c' => RC c' a (((ad, some l) :: H, aU U s (U s ||| (if l.1 5 = aS a 53 s ∧ aS a 73 s < 2 ∧ aVoter a s s then 1 else 0))), N)) := by
  have hl := RC_hand h List.mem_cons_self
  have e5 : cI c 8 ad 5 0 = l.1 5 := hl.1 5 (by decide)
  unfold k_Server_takeGo k_Server_takeGo_b0 k_Server_takeGo_b26 k_Server_takeGo_b50
  obtain ⟨x, hv, hx⟩ := K_voters h hs
  rw [hv, K_r h (F := 53) (cl := 13) (f := 10) (by decide) hs, K_r h (F := 73) (cl := 13) (f := 12) (by decide) hs, e5, RC_b1 h hs]
  have key : l.1 5 = aS a 53 s → aS a 73 s < 2 → WP ((some x).bind fun p1 => if xc0 .eq ((p1 >>> (Int32.ofNat s &&& 31)) &&& 1) = true then some c else (some (csI c 13 s 19 0 ((cI c 13 s 19 0) ||| 1))).bind fun σ5 => some σ5) (fun c' => RC c' a (((ad, some l) :: H, aU U s (U s ||| (if l.1 5 = aS a 53 s ∧ aS a 73 s < 2 ∧ aVoter a s s then 1 else 0))), N)) := by
    intro k1 k2
    refine WP_b ?_
    refine WP_if (bit_k hs) (fun z => ?_) (fun z => ?_)
    · rw [hx s hs] at z
      rw [if_neg (fun y => by
        have := y.2.2
        rw [z] at this
        exact absurd this (by decide)), aU_or0]
      exact WP_some h
    · have z : aVoter a s s = true := by
        rw [hx s hs] at z
        simpa using z
      rw [if_pos ⟨k1, k2, z⟩]
      exact WP_b (WP_some (K_due h hs))
  by_cases q1 : l.1 5 = aS a 53 s
  · rw [if_neg (fun z => c2_ne.mp z q1)]
    rcases hr with z | z | z | z
    · rw [if_pos (c0_eq.mpr z)]
      exact key q1 (by rw [z]; decide)
    · rw [if_neg (fun y => by rw [z] at y; exact absurd (c0_eq.mp y) (by decide)), if_neg (fun y => c2_ne.mp y z)]
      exact key q1 (by rw [z]; decide)
    · rw [if_neg (fun y => by rw [z] at y; exact absurd (c0_eq.mp y) (by decide)), if_pos (by rw [z]; decide), if_neg (fun y => by
        have := y.2.1
        rw [z] at this
        exact absurd this (by decide)), aU_or0]
      exact WP_some h
    · rw [if_neg (fun y => by rw [z] at y; exact absurd (c0_eq.mp y) (by decide)), if_pos (by rw [z]; decide), if_neg (fun y => by
        have := y.2.1
        rw [z] at this
        exact absurd this (by decide)), aU_or0]
      exact WP_some h
  · rw [if_pos (c2_ne.mpr q1), if_neg (fun y => q1 y.1), aU_or0]
    exact WP_some h
