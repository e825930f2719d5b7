/-! clients: what they demand, what they hear -/
theorem dem_0 {a : AA} {k : Nat} (o : aS a 131 k = 0) : A_demand a k = if 40 < aS (aAdd a 129 k 1) 129 k then A_resign (aAdd a 129 k 1) k else aI (A_alarm (A_sendOut (aAdd a 129 k 1) (rqL k (aS a 125 k) (aS a 128 k) (if aCmd a k = true then 1 else 2) (aS a 126 k) (aS a 127 k) (aS a 137 k) (12 + Int32.ofNat (aAsk a k).2.length))) (8 + k) (aNow (aAdd a 129 k 1) + 60)) 130 k 1 := by
  unfold A_demand rqL
  dsimp only
  rw [decide_eq_true o]
  rfl
theorem dem_1 {a : AA} {k : Nat} (o : ¬ aS a 131 k = 0) : A_demand a k = if 40 < aS (aAdd a 129 k 1) 129 k then A_resign (aAdd a 129 k 1) k else aI (A_alarm (A_sendOut (aAdd a 129 k 1) (rqL k (aS a 125 k) (aS a 128 k) 0 0 0 (-1) 2)) (8 + k) (aNow (aAdd a 129 k 1) + 60)) 130 k 1 := by
  unfold A_demand rqL
  dsimp only
  rw [decide_eq_false o]
  rfl
theorem K_demand {F : Nat} {c : CS} {a : AA} {k j : Nat} {H : List (Nat × Option AL)} {U : Nat → Int32} {N : Nat × Nat} (hF : 130 ≤ F) (h : RC c a ((H, U), N)) (hk : k < 8) (hb : ¬ aS a 124 k = 0) (hj : aS a 137 k = Int32.ofNat j) (hl : j < (aAk a).length) (hm : mdOK a 4) (hto : aInR (aS a 125 k) 0 6 = true) (hH : H.length ≤ 5) : WP (k_Client_sendRequest F c k) (fun c' => RC c' (A_demand a k) ((H, U), N)) := by
  have h1024 := (h.2.2.2.2.2.2.2.2.2.2.2.2.2.2.2.1).2.1
  have h1 := RC_I (x := aS a 129 k + 1) h (F := 129) (cl := 5) (f := 8) (i := k) (by decide) (by decide)
  have ea : aI a 129 k (aS a 129 k + 1) = aAdd a 129 k 1 := rfl
  rw [ea] at h1
  have fr : AFr [129] [] a (aAdd a 129 k 1) := AFr_I
  have r : ∀ f, f ≠ 129 → ∀ i, aS (aAdd a 129 k 1) f i = aS a f i := fun f hf i => fr.1 f (by simpa using hf) i
  have ec : aCmd (aAdd a 129 k 1) k = aCmd a k := by
    unfold aCmd aAsk
    rw [r 137 (by decide)]
    rfl
  have eq : aAsk a k = (aAk a).getD j (fun _ => 0, []) := by
    unfold aAsk
    rw [hj, i_cl (by omega)]
  have hb1 : ¬ aS (aAdd a 129 k 1) 124 k = 0 := by
    rw [r 124 (by decide)]
    exact hb
  have hj1 : aS (aAdd a 129 k 1) 137 k = Int32.ofNat j := (r 137 (by decide) k).trans hj
  have hl1 : j < (aAk (aAdd a 129 k 1)).length := hl
  have hm1 : mdOK (aAdd a 129 k 1) 4 := mdOK_s hm (r 2 (by decide) 0)
  have ek : aAk (aAdd a 129 k 1) = aAk a := rfl
  have d0 := @dem_0 a k
  have d1 := @dem_1 a k
  unfold k_Client_sendRequest k_Client_sendRequest_b0
  rw [K_r h (F := 129) (cl := 5) (f := 8) (by decide) hk]
  refine WP_b ?_
  rw [K_r h1 (F := 129) (cl := 5) (f := 8) (by decide) hk]
  generalize aAdd a 129 k 1 = b at h1 fr r ec hb1 hj1 hl1 hm1 ek d0 d1
  generalize csI c 5 k 8 0 (aS a 129 k + 1) = c1 at h1
  refine WP_if c2_le (fun z => ?_) (fun z => ?_)
  · have z : ¬ 40 < aS b 129 k := Int32.not_lt.mpr z
    rw [if_neg z] at d0 d1
    refine WP_call (K_blank h1 (by omega)) (fun p hp => ?_)
    obtain ⟨h2, _, _⟩ := hp
    have s5 : ∀ (X : CS) (i f w i' f' w' : Nat) (x : Int32), cI (csI X 8 i f w x) 5 i' f' w' = cI X 5 i' f' w' := fun _ _ _ _ _ _ _ _ => csI_cl (by decide)
    have e0 : cI p.2 5 k 0 0 = Int32.ofNat (8 + k) := h2.2.2.2.2.2.2.2.2.2.2.2.2.2.2.2.2.2.2.1 k hk
    have e4 : cI p.2 5 k 4 0 = aS a 125 k := (K_r h2 (F := 125) (cl := 5) (f := 4) (by decide) hk).trans (r 125 (by decide) k)
    have e7 : cI p.2 5 k 7 0 = aS a 128 k := (K_r h2 (F := 128) (cl := 5) (f := 7) (by decide) hk).trans (r 128 (by decide) k)
    refine WP_b (WP_b (WP_b (WP_b ?_)))
    simp only [s5, e0, e4, e7]
    have h3 := RC_I8 (ad := p.1) (f := 5) (j := 0) (x := aS a 128 k) (RC_I8 (ad := p.1) (f := 4) (j := 0) (x := 10) (RC_I8 (ad := p.1) (f := 3) (j := 0) (x := aS a 125 k) (RC_I8 (ad := p.1) (f := 2) (j := 0) (x := Int32.ofNat (8 + k)) h2)))
    have g2 : cI (csI (csI (csI (csI p.2 8 p.1 2 0 (Int32.ofNat (8 + k))) 8 p.1 3 0 (aS a 125 k)) 8 p.1 4 0 10) 8 p.1 5 0 (aS a 128 k)) 8 p.1 2 0 = Int32.ofNat (8 + k) := (csI_f (by decide)).trans ((csI_f (by decide)).trans ((csI_f (by decide)).trans csI_e))
    have g3 : cI (csI (csI (csI (csI p.2 8 p.1 2 0 (Int32.ofNat (8 + k))) 8 p.1 3 0 (aS a 125 k)) 8 p.1 4 0 10) 8 p.1 5 0 (aS a 128 k)) 8 p.1 3 0 = aS a 125 k := (csI_f (by decide)).trans ((csI_f (by decide)).trans csI_e)
    have g4 : cI (csI (csI (csI (csI p.2 8 p.1 2 0 (Int32.ofNat (8 + k))) 8 p.1 3 0 (aS a 125 k)) 8 p.1 4 0 10) 8 p.1 5 0 (aS a 128 k)) 8 p.1 4 0 = 10 := (csI_f (by decide)).trans csI_e
    have g5 : cI (csI (csI (csI (csI p.2 8 p.1 2 0 (Int32.ofNat (8 + k))) 8 p.1 3 0 (aS a 125 k)) 8 p.1 4 0 10) 8 p.1 5 0 (aS a 128 k)) 8 p.1 5 0 = aS a 128 k := csI_e
    have e10' : cI p.2 5 k 10 0 = aS a 131 k := (K_busy h2 hk hb1).2.1.trans (r 131 (by decide) k)
    rw [e10']
    generalize csI (csI (csI (csI p.2 8 p.1 2 0 (Int32.ofNat (8 + k))) 8 p.1 3 0 (aS a 125 k)) 8 p.1 4 0 10) 8 p.1 5 0 (aS a 128 k) = c2 at h3 g2 g3 g4 g5
    have e5 : cI c2 5 k 5 0 = aS a 126 k := (K_r h3 (F := 126) (cl := 5) (f := 5) (by decide) hk).trans (r 126 (by decide) k)
    have e6 : cI c2 5 k 6 0 = aS a 127 k := (K_r h3 (F := 127) (cl := 5) (f := 6) (by decide) hk).trans (r 127 (by decide) k)
    have e9 : cI c2 5 k 9 0 = Int32.ofNat j := (K_busy h3 hk hb1).1.trans hj1
    have e10 : cI c2 5 k 10 0 = aS a 131 k := (K_busy h3 hk hb1).2.1.trans (r 131 (by decide) k)
    have fill : ∀ x6 x14 x15 x16 x12, WP (k_Client_sendRequest_b174 F (csI (csI (csI (csI c2 8 p.1 6 0 x6) 8 p.1 14 0 x14) 8 p.1 15 0 x15) 8 p.1 16 0 x16) p.1 x12 k p.1) (fun c' => RC c' (aI (A_alarm (A_sendOut b (rqL k (aS a 125 k) (aS a 128 k) x6 x14 x15 x16 x12)) (8 + k) (aNow b + 60)) 130 k 1) ((H, U), N)) := by
      intro x6 x14 x15 x16 x12
      have h4 := RC_I8 (ad := p.1) (f := 16) (j := 0) (x := x16) (RC_I8 (ad := p.1) (f := 15) (j := 0) (x := x15) (RC_I8 (ad := p.1) (f := 14) (j := 0) (x := x14) (RC_I8 (ad := p.1) (f := 6) (j := 0) (x := x6) h3)))
      exact K_rq174 hF h4 hk hm1 hto hH ((csI_f (by decide)).trans ((csI_f (by decide)).trans ((csI_f (by decide)).trans ((csI_f (by decide)).trans g2)))) ((csI_f (by decide)).trans ((csI_f (by decide)).trans ((csI_f (by decide)).trans ((csI_f (by decide)).trans g3)))) ((csI_f (by decide)).trans ((csI_f (by decide)).trans ((csI_f (by decide)).trans ((csI_f (by decide)).trans g4)))) ((csI_f (by decide)).trans ((csI_f (by decide)).trans ((csI_f (by decide)).trans ((csI_f (by decide)).trans g5)))) ((csI_f (by decide)).trans ((csI_f (by decide)).trans ((csI_f (by decide)).trans csI_e))) ((csI_f (by decide)).trans ((csI_f (by decide)).trans csI_e)) ((csI_f (by decide)).trans csI_e) csI_e
    by_cases o : aS a 131 k = 0
    · rw [if_pos (c0_eq.mpr o), d0 o]
      have cmd : ∀ x6 : Int32, WP (k_Client_sendRequest_b86 F c2 p.1 x6 k p.1) (fun c' => RC c' (aI (A_alarm (A_sendOut b (rqL k (aS a 125 k) (aS a 128 k) x6 (aS a 126 k) (aS a 127 k) (aS a 137 k) (12 + Int32.ofNat (aAsk a k).2.length))) (8 + k) (aNow b + 60)) 130 k 1) ((H, U), N)) := by
        intro x6
        unfold k_Client_sendRequest_b86 k_Client_sendRequest_b105 k_Client_sendRequest_b124 k_Client_sendRequest_b143
        refine WP_b ?_
        rw [s5, e10, if_pos (c0_eq.mpr o), s5, e5]
        refine WP_b ?_
        rw [s5, s5, e10, if_pos (c0_eq.mpr o), s5, s5, e6]
        refine WP_b ?_
        rw [s5, s5, s5, e10, if_pos (c0_eq.mpr o), s5, s5, s5, e9]
        refine WP_b ?_
        rw [s5, s5, s5, s5, e10, if_pos (c0_eq.mpr o), s5, s5, s5, s5, e9]
        have h4 := RC_I8 (ad := p.1) (f := 16) (j := 0) (x := Int32.ofNat j) (RC_I8 (ad := p.1) (f := 15) (j := 0) (x := aS a 127 k) (RC_I8 (ad := p.1) (f := 14) (j := 0) (x := aS a 126 k) (RC_I8 (ad := p.1) (f := 6) (j := 0) (x := x6) h3)))
        have et := K_tellA (f := 9) h4 hl1 (by omega)
        refine WP_eq et ?_
        have e9f : kFld (aAk b) j 9 = Int32.ofNat (aAsk a k).2.length := by
          rw [eq, ek]
          rfl
        rw [e9f, hj]
        exact fill x6 (aS a 126 k) (aS a 127 k) (Int32.ofNat j) (12 + Int32.ofNat (aAsk a k).2.length)
      refine WP_eq (K_isCmd h3 hk hb1 hj1 hl1) ?_
      rw [ec]
      by_cases q : aCmd a k = true
      · rw [q, if_pos rfl]
        exact WP_if c0_eq (fun z => absurd z (by decide)) (fun _ => cmd 1)
      · rw [show aCmd a k = false by simpa using q]
        exact WP_if c0_eq (fun _ => cmd 2) (fun z => absurd rfl z)
    · rw [if_neg (fun z => o (c0_eq.mp z)), d1 o]
      have n : ¬ xc0 .eq (aS a 131 k) = true := fun z => o (c0_eq.mp z)
      unfold k_Client_sendRequest_b86 k_Client_sendRequest_b105 k_Client_sendRequest_b124 k_Client_sendRequest_b143
      refine WP_b ?_
      rw [s5, e10, if_neg n]
      refine WP_b ?_
      rw [s5, s5, e10, if_neg n]
      refine WP_b ?_
      rw [s5, s5, s5, e10, if_neg n]
      refine WP_b ?_
      rw [s5, s5, s5, s5, e10, if_neg n]
      exact fill 0 0 0 (-1) 2
  · have z : 40 < aS b 129 k := Int32.not_le.mp z
    rw [if_pos z] at d0 d1
    have e : A_demand a k = A_resign b k := by
      by_cases o : aS a 131 k = 0
      · exact d0 o
      · exact d1 o
    rw [e]
    exact WP_call (K_giveIn h1 hk hb1 hj1 hl1) (fun c2 h2 => WP_some h2)
theorem K_turn {c : CS} {a : AA} {v : CV} {k : Nat} (h : RC c a v) (hk : k < 8) (hto : aInR (aS a 125 k) 0 6 = true) : WP (k_Client_turnToNext c k) (fun c' => RC c' (aTurn a k) v) := by
  unfold k_Client_turnToNext k_Client_turnToNext_b0 k_Client_turnToNext_b22 aTurn
  rw [K_r h (F := 125) (cl := 5) (f := 4) (by decide) hk]
  refine WP_if c2_ge (fun z => ?_) (fun z => ?_)
  · rw [if_neg (fun y => Int32.not_lt.mpr z y)]
    exact WP_b (WP_some (RC_I h (F := 125) (cl := 5) (f := 4) (i := k) (by decide) (by decide)))
  · have z : aS a 125 k + 1 < 7 := Int32.not_le.mp z
    rw [if_pos z]
    exact WP_b (WP_some (RC_I h (F := 125) (cl := 5) (f := 4) (i := k) (by decide) (by decide)))
theorem turn_to {a : AA} {k : Nat} (hto : aInR (aS a 125 k) 0 6 = true) : aInR (aS (aTurn a k) 125 k) 0 6 = true := by
  have e : aS (aTurn a k) 125 k = if aS a 125 k + 1 < 7 then aS a 125 k + 1 else 0 := if_pos ⟨rfl, rfl⟩
  rw [e]
  unfold aInR at hto ⊢
  rw [Bool.and_eq_true_iff, decide_eq_true_eq, decide_eq_true_eq, Int32.le_iff_toInt_le, Int32.le_iff_toInt_le, i_0, show (6 : Int32).toInt = 6 by decide] at hto
  have e1 : (aS a 125 k + 1).toInt = (aS a 125 k).toInt + 1 := i_succ (by omega)
  by_cases q : aS a 125 k + 1 < 7
  · rw [if_pos q]
    rw [Int32.lt_iff_toInt_lt, e1, show (7 : Int32).toInt = 7 by decide] at q
    rw [Bool.and_eq_true_iff, decide_eq_true_eq, decide_eq_true_eq, Int32.le_iff_toInt_le, Int32.le_iff_toInt_le, i_0, show (6 : Int32).toInt = 6 by decide, e1]
    omega
  · rw [if_neg q]
    decide
/-- a client's alarm rings -/
theorem K_ringC {F : Nat} {c : CS} {a : AA} {k j : Nat} {H : List (Nat × Option AL)} {U : Nat → Int32} {N : Nat × Nat} (hF : 130 ≤ F) (h : RC c a ((H, U), N)) (hk : k < 8) (hb : ¬ aS a 124 k = 0) (hj : aS a 137 k = Int32.ofNat j) (hl : j < (aAk a).length) (hm : mdOK a 4) (hto : aInR (aS a 125 k) 0 6 = true) (hH : H.length ≤ 5) : WP (k_Client_wake F c k) (fun c' => RC c' (A_ringClient a k) ((H, U), N)) := by
  unfold k_Client_wake k_Client_wake_b0 k_Client_wake_b11 A_ringClient
  rw [(K_busy h hk hb).2.2]
  refine WP_if c0_eq (fun z => ?_) (fun z => ?_)
  · rw [if_pos z]
    exact WP_call (K_demand hF h hk hb hj hl hm hto hH) (fun c1 h1 => WP_some h1)
  · rw [if_neg z]
    refine WP_call (K_turn h hk hto) (fun c1 h1 => ?_)
    have fr : AFr [125] [] a (aTurn a k) := AFr_I
    have ek : aAk (aTurn a k) = aAk a := rfl
    exact WP_call (K_demand hF h1 hk (by rw [fr.1 124 (by decide)]; exact hb) ((fr.1 137 (by decide) k).trans hj) (by rw [ek]; exact hl) (mdOK_s hm (fr.1 2 (by decide) 0)) (turn_to hto) hH) (fun c2 h2 => WP_some h2)
