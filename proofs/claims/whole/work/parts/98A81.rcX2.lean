/-! the face: ask -/
def aAskL (kind k v n : Int32) : Bool := if kind = 0 then aInR (n - k) 0 100 else if kind = 1 then aInR v 0 100 && aInR (n - k - v) 0 100 else if kind = 4 then aInR (n - k) 1 32 else decide (n - k = 0)
theorem K_askable {c : CS} {kind k w : Int32} {n : Nat} (hn : n ≤ 400) : k_Face_isAskable c kind k w (Int32.ofNat n) = some (aB (aAskable kind k w (Int32.ofNat n))) := by
  have en := Int32.toInt_ofNat_of_lt (n := n) (by omega)
  have eA : aAskable kind k w (Int32.ofNat n) = (aInR kind 0 5 && aInR k 1 32 && (decide (kind = 1) || decide (w = 0)) && aAskL kind k w (Int32.ofNat n)) := rfl
  unfold k_Face_isAskable k_Face_isAskable_b0 k_Face_isAskable_b34
  rw [if_pos (show (0 : Int32) = 0 ∨ (0 : Int32) = 1 from Or.inl rfl)]
  by_cases h1 : aInR kind 0 5 = true
  rotate_left
  · have h1 := b_false h1
    have e : aAskable kind k w (Int32.ofNat n) = false := by
      rw [eA, h1]
      rfl
    rw [e]
    have h1 := inR_n.mp h1
    rw [i_0, L_5] at h1
    by_cases q : kind.toInt < 0
    · rw [if_pos (g0_lt.mpr q)]
      rfl
    · rw [if_neg (fun z => q (g0_lt.mp z)), if_pos (g2_gt.mpr (by rw [L_5]; omega))]
      rfl
  have d1 := inR_t.mp h1
  rw [i_0, L_5] at d1
  rw [if_neg (fun z => by have z := g0_lt.mp z; omega), if_neg (fun z => by have z := g2_gt.mp z; rw [L_5] at z; omega)]
  by_cases h2 : aInR k 1 32 = true
  rotate_left
  · have h2 := b_false h2
    have e : aAskable kind k w (Int32.ofNat n) = false := by
      rw [eA, h1, h2]
      rfl
    rw [e]
    have h2 := inR_n.mp h2
    rw [L_1, L_32] at h2
    by_cases q : k.toInt < 1
    · rw [if_pos (g2_lt.mpr (by rw [L_1]; exact q))]
      rfl
    · rw [if_neg (fun z => q (by have z := g2_lt.mp z; rw [L_1] at z; exact z)), if_pos (g2_gt.mpr (by rw [L_32]; omega))]
      rfl
  have d2 := inR_t.mp h2
  rw [L_1, L_32] at d2
  have es : (Int32.ofNat n - k).toInt = n - k.toInt := by
    rw [i_subI (by omega) (by omega), en]
  rw [if_neg (fun z => by have z := g2_lt.mp z; rw [L_1] at z; omega), if_neg (fun z => by have z := g2_gt.mp z; rw [L_32] at z; omega)]
  have f1 : (n : Int) - k.toInt < 0 → aAskL kind k w (Int32.ofNat n) = false := by
    intro q
    unfold aAskL
    split
    · exact inR_n.mpr (by rw [es, i_0, L_100]; omega)
    · split
      · by_cases y : aInR w 0 100 = true
        · have y2 := inR_t.mp y
          rw [i_0, L_100] at y2
          rw [y, Bool.true_and]
          exact inR_n.mpr (by rw [i_subI (by omega) (by omega), es, i_0, L_100]; omega)
        · rw [b_false y]
          rfl
      · split
        · exact inR_n.mpr (by rw [es, L_1, L_32]; omega)
        · refine decide_eq_false (fun z => ?_)
          have z := congrArg Int32.toInt z
          rw [es, i_0] at z
          omega
  by_cases h3 : (n : Int) < k.toInt
  · have e : aAskable kind k w (Int32.ofNat n) = false := by
      rw [eA, f1 (by omega), Bool.and_false]
    rw [e, if_pos (g2_gt.mpr (by rw [en]; exact h3))]
    rfl
  rw [if_neg (fun z => h3 (by have z := g2_gt.mp z; rw [en] at z; exact z))]
  by_cases h4 : w = 0 ∨ kind = 1
  rotate_left
  · have e : aAskable kind k w (Int32.ofNat n) = false := by
      rw [eA, decide_eq_false (fun z => h4 (Or.inr z)), decide_eq_false (fun z => h4 (Or.inl z)), Bool.or_false, Bool.and_false, Bool.false_and]
    rw [e, if_neg (fun z => h4 (Or.inl (c0_eq.mp z))), if_neg (fun z => h4 (Or.inr (c2_eq.mp z)))]
    rfl
  have e : aAskable kind k w (Int32.ofNat n) = aAskL kind k w (Int32.ofNat n) := by
    have y : (decide (kind = 1) || decide (w = 0)) = true := by
      rcases h4 with z | z
      · rw [decide_eq_true z, Bool.or_true]
      · rw [decide_eq_true z, Bool.true_or]
    rw [eA, h1, h2, y, Bool.true_and, Bool.true_and, Bool.true_and]
  rw [e]
  have key : k_Face_isAskable_b36 c kind k w (Int32.ofNat n) = some (aB (aAskL kind k w (Int32.ofNat n))) := by
    obtain ⟨j, ej, hj⟩ := in_nat2 (hi := 5) (by omega) h1
    subst ej
    have z0 : ∀ x : Int32, x = Int32.ofNat n - k → (if xc0 .ne x = true then some (0 : Int32) else some 1) = some (aB (decide (Int32.ofNat n - k = 0))) := by
      intro x hx
      rw [hx]
      by_cases q : Int32.ofNat n - k = 0
      · rw [if_neg (fun z => c0_ne.mp z q), decide_eq_true q]
        rfl
      · rw [if_pos (c0_ne.mpr q), decide_eq_false q]
        rfl
    match j, hj with
    | 0, _ =>
      show (if xc2 .gt (Int32.ofNat n - k) 100 = true then some (0 : Int32) else some 1) = some (aB (aInR (Int32.ofNat n - k) 0 100))
      by_cases q : 100 < (Int32.ofNat n - k).toInt
      · rw [if_pos (g2_gt.mpr (by rw [L_100]; exact q)), inR_n.mpr (by rw [i_0, L_100]; omega)]
        rfl
      · rw [if_neg (fun z => q (by have z := g2_gt.mp z; rw [L_100] at z; exact z)), inR_t.mpr (by rw [es, i_0, L_100]; rw [es] at q; omega)]
        rfl
    | 1, _ =>
      show (if xc0 .lt w = true then some (0 : Int32) else if xc2 .gt w 100 = true then some 0 else if xc2 .gt w (Int32.ofNat n - k) = true then some 0 else if xc2 .gt (Int32.ofNat n - k - w) 100 = true then some 0 else some 1) = some (aB (aInR w 0 100 && aInR (Int32.ofNat n - k - w) 0 100))
      by_cases q1 : w.toInt < 0
      · rw [if_pos (g0_lt.mpr q1), inR_n.mpr (show ¬ ((0 : Int32).toInt ≤ w.toInt ∧ w.toInt ≤ (100 : Int32).toInt) by rw [i_0]; omega)]
        rfl
      rw [if_neg (fun z => q1 (g0_lt.mp z))]
      by_cases q2 : 100 < w.toInt
      · rw [if_pos (g2_gt.mpr (by rw [L_100]; exact q2)), inR_n.mpr (show ¬ ((0 : Int32).toInt ≤ w.toInt ∧ w.toInt ≤ (100 : Int32).toInt) by rw [L_100]; omega)]
        rfl
      rw [if_neg (fun z => q2 (by have z := g2_gt.mp z; rw [L_100] at z; exact z)), inR_t.mpr (show (0 : Int32).toInt ≤ w.toInt ∧ w.toInt ≤ (100 : Int32).toInt by rw [i_0, L_100]; omega), Bool.true_and]
      have e2 : (Int32.ofNat n - k - w).toInt = n - k.toInt - w.toInt := by
        rw [i_subI (by omega) (by omega), es]
      by_cases q3 : (n : Int) - k.toInt < w.toInt
      · rw [if_pos (g2_gt.mpr (by rw [es]; exact q3)), inR_n.mpr (by rw [e2, i_0]; omega)]
        rfl
      rw [if_neg (fun z => q3 (by have z := g2_gt.mp z; rw [es] at z; exact z))]
      by_cases q4 : 100 < (n : Int) - k.toInt - w.toInt
      · rw [if_pos (g2_gt.mpr (by rw [e2, L_100]; exact q4)), inR_n.mpr (by rw [e2, L_100]; omega)]
        rfl
      · rw [if_neg (fun z => q4 (by have z := g2_gt.mp z; rw [e2, L_100] at z; exact z)), inR_t.mpr (by rw [e2, i_0, L_100]; omega)]
        rfl
    | 2, _ => exact z0 _ rfl
    | 3, _ => exact z0 _ rfl
    | 4, _ =>
      show (if xc2 .lt (Int32.ofNat n - k) 1 = true then some (0 : Int32) else if xc2 .gt (Int32.ofNat n - k) 32 = true then some 0 else some 1) = some (aB (aInR (Int32.ofNat n - k) 1 32))
      by_cases q1 : (n : Int) - k.toInt < 1
      · rw [if_pos (g2_lt.mpr (by rw [es, L_1]; exact q1)), inR_n.mpr (by rw [es, L_1]; omega)]
        rfl
      rw [if_neg (fun z => q1 (by have z := g2_lt.mp z; rw [es, L_1] at z; exact z))]
      by_cases q2 : 32 < (n : Int) - k.toInt
      · rw [if_pos (g2_gt.mpr (by rw [es, L_32]; exact q2)), inR_n.mpr (by rw [es, L_32]; omega)]
        rfl
      · rw [if_neg (fun z => q2 (by have z := g2_gt.mp z; rw [es, L_32] at z; exact z)), inR_t.mpr (by rw [es, L_1, L_32]; omega)]
        rfl
    | 5, _ => exact z0 _ rfl
  by_cases q : w = 0
  · rw [if_pos (c0_eq.mpr q)]
    exact key
  · rw [if_neg (fun z => q (c0_eq.mp z)), if_pos (c2_eq.mpr (h4.resolve_left q))]
    exact key
theorem askable_l {kind k w : Int32} {n : Nat} (hn : n ≤ 400) (h : aAskable kind k w (Int32.ofNat n) = true) : n ≤ 232 := by
  have en := Int32.toInt_ofNat_of_lt (n := n) (by omega)
  have eA : aAskable kind k w (Int32.ofNat n) = (aInR kind 0 5 && aInR k 1 32 && (decide (kind = 1) || decide (w = 0)) && aAskL kind k w (Int32.ofNat n)) := rfl
  rw [eA, Bool.and_eq_true_iff, Bool.and_eq_true_iff, Bool.and_eq_true_iff] at h
  obtain ⟨⟨⟨_, h2⟩, _⟩, h4⟩ := h
  have d2 := inR_t.mp h2
  rw [L_1, L_32] at d2
  have es : (Int32.ofNat n - k).toInt = n - k.toInt := by
    rw [i_subI (by omega) (by omega), en]
  unfold aAskL at h4
  split at h4
  · have := inR_t.mp h4
    rw [es, L_100] at this
    omega
  · split at h4
    · rw [Bool.and_eq_true_iff] at h4
      have y1 := inR_t.mp h4.1
      rw [i_0, L_100] at y1
      have y2 := inR_t.mp h4.2
      rw [i_subI (by omega) (by omega), es, L_100] at y2
      omega
    · split at h4
      · have := inR_t.mp h4
        rw [es, L_32] at this
        omega
      · have z := congrArg Int32.toInt (of_decide_eq_true h4)
        rw [es, i_0] at z
        omega
theorem K_askF {F : Nat} {c : CS} {a : AA} {x kd k w : Int32} {U : Nat → Int32} {N : Nat × Nat} (hF : 130 ≤ F) (h : RC c a (([], U), N)) (hb : ∀ k, k < 8 → aS a 124 k = 0 ∨ aS a 124 k = 1) (hm : mdOK a 4) (hto : ∀ k, k < 8 → aInR (aS a 125 k) 0 6 = true) :
    ((A_askFace a x kd k w).2.1 = 0 ∧ WP (k_Face_ask F c 0 x kd k w) (fun p => RC p.2 (A_askFace a x kd k w).1 (([], U), (N.1 + 2, N.2)) ∧ p.1 = (A_askFace a x kd k w).2.2)) ∨
    ((A_askFace a x kd k w).2.1 = 2 ∧ WP (k_Face_ask_A F c 0 x kd k w) (fun c' => RC c' (A_askFace a x kd k w).1 (([], U), N))) ∨
    ((A_askFace a x kd k w).2.1 = 3 ∧ WP (k_Face_ask_S F c 0 x kd k w) (fun c' => RC c' (A_askFace a x kd k w).1 (([], U), N))) ∨
    ((A_askFace a x kd k w).2.1 = 1 ∧ k_Face_asker_J (csI c 15 0 5 0 0) 0 x = some () ∧ RC (csI c 15 0 5 0 0) (A_askFace a x kd k w).1 (([], U), N)) := by
  obtain ⟨t1, t2, t3, _⟩ := h.2.2.2.2.2.2.2.2.2.2.2.2.2.2.2.2.1
  have h0 : RC (csI c 15 0 5 0 0) (aTpS a []) (([], U), N) := RC_tp h (PX_I (by decide)) csI_e (Nat.zero_le _) (fun i hi => absurd hi (Nat.not_lt_zero _))
  have s4 : ∀ j, cI (csI c 15 0 5 0 0) 15 0 4 j = cI c 15 0 4 j := fun j => csI_f (by decide)
  have hk0 := (h.2.2.2.2.2.2.2.2.2.2.2.2.2.2.2.1).1
  have hk2 := (h.2.2.2.2.2.2.2.2.2.2.2.2.2.2.2.1).2.1
  have p0 : cI (csI c 15 0 5 0 0) 4 0 0 0 = Int32.ofNat (aAk a).length := (csI_cl (by decide)).trans hk0
  obtain ⟨c0, hc0⟩ : ∃ c0, c0 = csI c 15 0 5 0 0 := ⟨_, rfl⟩
  rw [← hc0] at h0 s4 p0 ⊢
  have f5 : ∀ k, k < 8 → cI c0 5 k 3 0 = aS a 124 k := by
    intro k hk
    have := K_r h0 (F := 124) (cl := 5) (f := 3) (by decide) hk
    exact this
  unfold A_askFace
  by_cases q1 : aInR x 0 7 = true
  rotate_left
  · have q1 := b_false q1
    rw [q1]
    exact Or.inr (Or.inr (Or.inr ⟨rfl, K_askerJ q1, h0⟩))
  obtain ⟨s, hs, e⟩ := inR_7 q1
  subst e
  rw [q1]
  have ka := K_askable (c := c0) (kind := kd) (k := k) (w := w) t2
  by_cases q2 : aAskable kd k w (Int32.ofNat (aTp a).length) = true
  rotate_left
  · have q2 := b_false q2
    dsimp only
    rw [q2]
    refine Or.inr (Or.inl ⟨rfl, ?_⟩)
    unfold k_Face_ask_A k_Face_ask_A_b0
    refine WP_b ?_
    rw [← hc0, K_asker hs, t1]
    refine WP_b ?_
    rw [ka, q2]
    refine WP_b ?_
    rw [if_neg (show ¬ xc0 .ne (aB false) = true by decide)]
    exact WP_some h0
  dsimp only
  rw [q2, i_cl (show s < 2147483648 by omega)]
  have o1 : ¬ aB true = 0 := by decide
  by_cases q3 : ¬ aS a 124 s = 0 ∨ 1024 ≤ (aAk a).length
  · rw [if_neg (show ¬ (!true) = true by decide), if_neg (show ¬ (!true) = true by decide), if_pos q3]
    refine Or.inr (Or.inr (Or.inl ⟨rfl, ?_⟩))
    unfold k_Face_ask_S k_Face_ask_S_b0 k_Face_ask_S_b59
    refine WP_b ?_
    rw [← hc0, K_asker hs, t1]
    refine WP_b ?_
    rw [ka, q2]
    refine WP_b ?_
    rw [if_pos (c0_ne.mpr o1), f5 s hs]
    by_cases q4 : aS a 124 s = 0
    · rw [if_neg (fun z => c0_ne.mp z q4), p0, if_neg (fun z => by
        have z := g2_lt.mp z
        rw [Int32.toInt_ofNat_of_lt (by omega), L_1024] at z
        have := q3.resolve_left (fun y => y q4)
        omega)]
      exact WP_some h0
    · rw [if_pos (c0_ne.mpr q4)]
      exact WP_some h0
  · rw [if_neg (show ¬ (!true) = true by decide), if_neg (show ¬ (!true) = true by decide), if_neg q3]
    have q4 : aS a 124 s = 0 := Classical.not_not.mp (fun z => q3 (Or.inl z))
    have q5 : (aAk a).length < 1024 := Nat.lt_of_not_le (fun z => q3 (Or.inr z))
    refine Or.inl ⟨rfl, ?_⟩
    unfold k_Face_ask k_Face_ask_b0
    refine WP_b ?_
    rw [← hc0, K_asker hs, t1]
    refine WP_b ?_
    rw [ka, q2]
    refine WP_b ?_
    rw [if_pos (c0_ne.mpr o1), f5 s hs, if_neg (fun z => c0_ne.mp z q4), p0, if_pos (g2_lt.mpr (by rw [Int32.toInt_ofNat_of_lt (by omega), L_1024]; omega))]
    refine WP_call (K_addA (x := Int32.ofNat s) (kd := kd) (k := k) (w := w) h0 q5) (fun p hp => ?_)
    obtain ⟨e1, h1, e4⟩ := hp
    have e1 : p.1 = Int32.ofNat (aAk a).length := e1
    rw [e1]
    have eh : aAdd (aAkS (aTpS a []) (aAk (aTpS a []) ++ [((fun j => if j = 0 then Int32.ofNat s else if j = 1 then kd else if j = 2 then aS (aTpS a []) 141 0 else if j = 3 then -1 else if j = 5 then -1 else if j = 7 then k else if j = 8 then w else 0), [])])) 141 0 1 = aAkS (aAdd (aTpS a []) 141 0 1) (aAk a ++ [((fun j => if j = 0 then Int32.ofNat s else if j = 1 then kd else if j = 2 then aS a 141 0 else if j = 3 then -1 else if j = 5 then -1 else if j = 7 then k else if j = 8 then w else 0), [])]) := rfl
    rw [eh] at h1
    obtain ⟨q, hq⟩ : ∃ q : Nat → Int32, q = fun j => if j = 0 then Int32.ofNat s else if j = 1 then kd else if j = 2 then aS a 141 0 else if j = 3 then -1 else if j = 5 then -1 else if j = 7 then k else if j = 8 then w else 0 := ⟨_, rfl⟩
    rw [← hq] at h1 ⊢
    refine WP_call (K_addB (K := aAk a) (q := q) (bs := aTp a) h1 rfl (fun i hi => by rw [e4, s4]; exact t3 i hi) (askable_l t2 q2)) (fun c2 h2 => ?_)
    have h2 : RC c2 (aAkS (aAdd (aTpS a []) 141 0 1) (aAk a ++ [(q, aTp a)])) (([], U), (N.1 + 2, N.2)) := h2
    have hl : (aAk a).length < (aAk (aAkS (aAdd (aTpS a []) 141 0 1) (aAk a ++ [(q, aTp a)]))).length := by
      show (aAk a).length < (aAk a ++ [(q, aTp a)]).length
      rw [List.length_append]
      exact Nat.lt_succ_self _
    refine WP_call (K_beginC hF h2 hs hl (mdOK_s hm (aS_If (by decide))) (by
      have : aS (aAkS (aAdd (aTpS a []) 141 0 1) (aAk a ++ [(q, aTp a)])) 125 s = aS a 125 s := aS_If (by decide)
      rw [this]
      exact hto s hs) (Nat.zero_le _)) (fun c3 h3 => WP_some ⟨?_, rfl⟩)
    have e1 : ((aAk (aAkS (aAdd (aTpS a []) 141 0 1) (aAk a ++ [(q, aTp a)]))).getD (aAk a).length (fun _ => 0, [])).1 1 = kd := by
      show ((aAk a ++ [(q, aTp a)]).getD (aAk a).length (fun _ => 0, [])).1 1 = kd
      rw [getD_kl, hq]
      rfl
    have e126 : aS (aAkS (aAdd (aTpS a []) 141 0 1) (aAk a ++ [(q, aTp a)])) 126 s = aS a 126 s := aS_If (by decide)
    unfold bgA at h3
    dsimp only at h3
    rw [e1, e126] at h3
    simp only [decide_eq_true_eq] at h3
    exact h3
/-! the face: members, learners, handing over, stopping -/
theorem RX_appendCode {a : AA} {s : Nat} {c : Int32} (x : RX a) (hs : s < 7) (hup : aS a 52 s = 1) (hp : pApp a s) : RX (A_appendCode a s c) := by
  obtain ⟨σ, u, h, hu⟩ := x
  obtain ⟨τ, _, h2⟩ := M_appendCode (F := 20000) (c := c) (by omega) h hs hup (hu s) hp
  exact ⟨τ, u, h2, hu⟩
theorem AFr_appC {a : AA} {s : Nat} {c : Int32} : AFr [43, 56, 64, 65, 2, 31, 32, 71] [2, 6, 8] a (A_appendCode a s c) := AFr_app
theorem K_setMembers {F : Nat} {c : CS} {a : AA} {s : Nat} {x : Int32} {U : Nat → Int32} {N : Nat × Nat} (hF : 130 ≤ F) (h : RC c a (([], U), N)) (hs : s < 7) (hu : aS a 52 s = 1) (hr : aS a 73 s = 3) (hx : RX a) (hp : pApp a s) (hm : mdOK a 0) : WP (k_Server_setMembers F c s x) (fun c' => RC c' (A_sendAll (A_appendCode a s x) s false) (([], U), N)) := by
  obtain ⟨_, wl, wc, _, _⟩ := RX_W hx hs
  have hX := RX_appendCode (c := x) hx hs hu hp
  have fr := @AFr_appC a s x
  have e73 : aS (A_appendCode a s x) 73 s = 3 := by rw [fr.1 73 (by decide)]; exact hr
  have e52 : aS (A_appendCode a s x) 52 s = 1 := by rw [fr.1 52 (by decide)]; exact hu
  obtain ⟨_, wl2, _, _, wd2⟩ := RX_W hX hs
  unfold k_Server_setMembers k_Server_setMembers_b0
  rw [K_r h (F := 53) (cl := 13) (f := 10) (by decide) hs]
  refine K_ownE (by omega) h hs wl (wc hu) hp hm (by decide) (fun c1 h1 => ?_)
  exact WP_bb (WP_call (K_sendToAll (bt := false) hF h1 hs e52 e73 wl2 (wd2 e73) (Nat.zero_le _)) (fun c2 h2 => WP_some h2))
theorem K_mayLead {c : CS} {a : AA} {v : CV} {s : Nat} (h : RC c a v) (hs : s < 7) (hb : aS a 52 s = 0 ∨ aS a 52 s = 1) (h80 : aS a 80 s = -1 ∨ 0 ≤ aS a 80 s) : k_Server_mayLead c s = some (aB (aMay a s)) := by
  unfold k_Server_mayLead k_Server_mayLead_b0 k_Server_mayLead_b30 k_Server_mayLead_b31 aMay
  rw [K_r h (F := 52) (cl := 13) (f := 8) (by decide) hs, K_r h (F := 73) (cl := 13) (f := 12) (by decide) hs, K_r h (F := 80) (cl := 7) (f := 10) (by decide) hs, if_pos (Or.inl rfl), if_pos (Or.inr rfl)]
  rcases hb with q | q
  · rw [q, if_pos (by decide)]
    rfl
  rw [q, if_neg (by decide)]
  by_cases q2 : aS a 73 s = 3
  · rw [if_neg (fun z => c2_ne.mp z q2), decide_eq_true q2]
    rcases h80 with q3 | q3
    · rw [q3, if_neg (by decide)]
      rfl
    · rw [if_pos (c2_ne.mpr (fun z => by rw [z] at q3; exact absurd q3 (by decide))), decide_eq_false (Int32.not_lt.mpr q3)]
      rfl
  · rw [if_pos (c2_ne.mpr q2), decide_eq_false q2]
    rfl
theorem K_mayChange {c : CS} {a : AA} {v : CV} {s : Nat} (h : RC c a v) (hs : s < 7) (hb : aS a 52 s = 0 ∨ aS a 52 s = 1) (h80 : aS a 80 s = -1 ∨ 0 ≤ aS a 80 s) : k_Server_maySetMembers c s = some (aB (aMayChange a s)) := by
  unfold k_Server_maySetMembers k_Server_maySetMembers_b0 k_Server_maySetMembers_b57 k_Server_maySetMembers_b58 aMayChange k_Log_length k_Log_length_b0
  rw [K_mayLead h hs hb h80, K_r h (F := 55) (cl := 9) (f := 3) (by decide) hs, K_r h (F := 56) (cl := 9) (f := 6) (by decide) hs, K_r h (F := 64) (cl := 9) (f := 8) (by decide) hs, K_r h (F := 75) (cl := 9) (f := 9) (by decide) hs, K_r h (F := 65) (cl := 9) (f := 7) (by decide) hs, if_pos (Or.inl rfl), if_pos (Or.inr rfl)]
  show (if _ then _ else (some (aS a 56 s - aS a 55 s)).bind _) = _
  cases aMay a s with
  | false =>
    rw [if_pos (show xc0 .eq (aB false) = true by decide)]
    rfl
  | true =>
    rw [if_neg (fun z => absurd (c0_eq.mp z) (by decide))]
    show (if xc2 .ge (aLast a s - aBase a s) 200 = true then _ else _) = _
    by_cases q1 : aLast a s - aBase a s < 200
    · rw [if_neg (fun z => Int32.not_le.mpr q1 (c2_ge.mp z)), decide_eq_true q1]
      by_cases q2 : aS a 64 s ≤ aS a 75 s
      · rw [if_neg (fun z => Int32.not_lt.mpr q2 (c2_gt.mp z)), decide_eq_true q2]
        by_cases q3 : aNewM (aS a 65 s) = 0
        · rw [if_neg (show ¬ xc0 .ne (aS a 65 s >>> ((7 : Int32) &&& 31) &&& 127) = true from fun z => c0_ne.mp z q3), decide_eq_true q3]
          rfl
        · rw [if_pos (show xc0 .ne (aS a 65 s >>> ((7 : Int32) &&& 31) &&& 127) = true from c0_ne.mpr q3), decide_eq_false q3]
          rfl
      · rw [if_pos (c2_gt.mpr (Int32.not_le.mp q2)), decide_eq_false q2]
        rfl
    · rw [if_pos (c2_ge.mpr (Int32.not_lt.mp q1)), decide_eq_false q1]
      rfl
def aKn (a : AA) (s : Nat) (set : Int32) (p : Nat) : Bool := !aIn set p || aIn (aOldM (aS a 65 s)) p || (aIn (aLearn (aS a 65 s)) p && decide (aS a 75 s ≤ aS a 87 (7 * s + p)))
theorem K_areKnown {F : Nat} {c : CS} {a : AA} {v : CV} {s : Nat} {set : Int32} (hF : 10 ≤ F) (h : RC c a v) (hs : s < 7) (hr : aS a 73 s = 3) : k_Server_areKnown F c s set = some (aB (aKnown a s set)) := by
  have e65 : cI c 9 s 7 0 = aS a 65 s := K_r h (F := 65) (cl := 9) (f := 7) (by decide) hs
  have e75 : cI c 9 s 9 0 = aS a 75 s := K_r h (F := 75) (cl := 9) (f := 9) (by decide) hs
  have hld := (h.2.2.2.1 s hs hr).2.2
  have dr : ∀ p, p < 7 → (List.range 7).drop p = p :: (List.range 7).drop (p + 1) := by decide
  have d7 : (List.range 7).drop 7 = [] := by decide
  have key : ∀ n p, 8 ≤ p + n → p ≤ 7 → k_Server_areKnown_b25 F n c s set (aS a 65 s &&& 127) (aS a 65 s >>> ((14 : Int32) &&& 31)) (Int32.ofNat p) = some (aB (((List.range 7).drop p).all (aKn a s set))) := by
    intro n
    induction n with
    | zero => intro p h1 h2; omega
    | succ n ih =>
      intro p h1 h2
      unfold k_Server_areKnown_b25
      dsimp only
      by_cases q : p = 7
      · subst q
        rw [if_pos (by decide), if_pos (Or.inr rfl), d7]
        rfl
      · have hp : p < 7 := by omega
        have i1 := ih (p + 1) (by omega) (by omega)
        have e0 : (xc0 .eq ((set >>> (Int32.ofNat p &&& 31)) &&& 1) = true) ↔ aIn set p = false := bit_k hp
        have e1 : (xc0 .ne (((aS a 65 s &&& 127) >>> (Int32.ofNat p &&& 31)) &&& 1) = true) ↔ aIn (aOldM (aS a 65 s)) p = true := by
          rw [c0_ne, ← c0_eq, bit_k hp, Bool.not_eq_false]
          exact Iff.rfl
        have e2 : (xc0 .eq (((aS a 65 s >>> ((14 : Int32) &&& 31)) >>> (Int32.ofNat p &&& 31)) &&& 1) = true) ↔ aIn (aLearn (aS a 65 s)) p = false := by
          rw [bit_k hp]
          unfold aLearn
          rw [aIn_m hp]
          exact Iff.rfl
        have stp : ∀ b : Bool, b = (aIn (aLearn (aS a 65 s)) p && decide (aS a 75 s ≤ aS a 87 (7 * s + p))) → k_Server_areKnown_b66 F (k_Server_areKnown_b25 F n) c (aB b) s set (aS a 65 s &&& 127) (aS a 65 s >>> ((14 : Int32) &&& 31)) (Int32.ofNat p) = some (aB (((List.range 7).drop p).all (aKn a s set))) := by
          intro b hb
          unfold k_Server_areKnown_b66 k_Server_areKnown_b93
          rw [i_s, i1, dr p hp, List.all_cons, if_pos (show (0 : Int32) = 0 ∨ (0 : Int32) = 1 from Or.inl rfl)]
          unfold aKn
          cases z0 : aIn set p with
          | false =>
            rw [if_pos (e0.mpr z0)]
            rfl
          | true =>
            rw [if_neg (fun z => by have z := e0.mp z; rw [z0] at z; exact absurd z (by decide))]
            cases z1 : aIn (aOldM (aS a 65 s)) p with
            | true =>
              rw [if_pos (e1.mpr z1)]
              rfl
            | false =>
              rw [if_neg (fun z => by have z := e1.mp z; rw [z1] at z; exact absurd z (by decide)), ← hb]
              cases b with
              | true =>
                rw [if_pos (c0_ne.mpr (show ¬ aB true = 0 by decide))]
                rfl
              | false =>
                rw [if_neg (show ¬ xc0 .ne (aB false) = true by decide)]
                rfl
        rw [if_neg (fun z => by
          have z := g2_ge.mp z
          rw [Int32.toInt_ofNat_of_lt (by omega), L_7] at z
          omega)]
        unfold k_Server_areKnown_b65
        cases z2 : aIn (aLearn (aS a 65 s)) p with
        | false =>
          rw [if_pos (e2.mpr z2)]
          exact stp false (by rw [z2]; rfl)
        | true =>
          rw [if_neg (fun z => by have z := e2.mp z; rw [z2] at z; exact absurd z (by decide)), crd_n (c := c) (cl := 7) (i := s) (f := 1) rfl (show p < 7 from hp) (by omega), e75, (hld p hp).2.1]
          show (if xc2 .lt (aS a 87 (7 * s + p)) (aS a 75 s) = true then _ else _) = _
          by_cases z3 : aS a 75 s ≤ aS a 87 (7 * s + p)
          · rw [if_neg (fun z => Int32.not_lt.mpr z3 (c2_lt.mp z))]
            exact stp true (by rw [z2, decide_eq_true z3]; rfl)
          · rw [if_pos (c2_lt.mpr (Int32.not_le.mp z3))]
            exact stp false (by rw [decide_eq_false z3, Bool.and_false])
  unfold k_Server_areKnown k_Server_areKnown_b0
  rw [e65]
  exact key F 0 (by omega) (by omega)
theorem i_not {x : Int32} : x ^^^ (-1) = ~~~x := by
  apply Int32.toBitVec_inj.mp
  rw [Int32.toBitVec_xor, Int32.toBitVec_not]
  show x.toBitVec ^^^ BitVec.allOnes 32 = ~~~x.toBitVec
  rw [BitVec.xor_allOnes]
theorem K_membersF {F : Nat} {c : CS} {a : AA} {x set : Int32} {U : Nat → Int32} {N : Nat × Nat} (hF : 130 ≤ F) (h : RC c a (([], U), N)) (hb : ∀ s, s < 7 → aS a 52 s = 0 ∨ aS a 52 s = 1) (h80 : ∀ s, s < 7 → aS a 80 s = -1 ∨ 0 ≤ aS a 80 s) (hx : RX a) (hp : ∀ s, s < 7 → aMayChange a s = true → pApp a s) (hm : mdOK a 0) (hcode : ∀ s, s < 7 → aLearn (aS a 65 s) = aS a 65 s >>> 14) : cUpd a (([], U), N) (A_members a x set) (k_Face_members F c 0 x set) (k_Face_host_J c 0 x) none := by
  unfold A_members
  by_cases q1 : aInR x 0 6 = true
  rotate_left
  · have q1 := b_false q1
    rw [q1]
    exact Or.inr ⟨rfl, rfl, Or.inl (K_hostJ q1)⟩
  obtain ⟨s, hs, e⟩ := inR_6 q1
  subst e
  rw [q1, i_cl (by omega), if_neg (show ¬ (!true) = true by decide)]
  have e65 : cI c 9 s 7 0 = aS a 65 s := K_r h (F := 65) (cl := 9) (f := 7) (by decide) hs
  have no : ∀ (m : Option (Int32 × CS)), m = k_Face_members_b32 F c → WP m (fun p => RC p.2 a (([], U), N) ∧ p.1 = 0) := by
    intro m hm
    rw [hm]
    unfold k_Face_members_b32
    rw [if_pos (Or.inl rfl)]
    exact WP_some ⟨h, rfl⟩
  dsimp only
  have start : ∀ Q : Int32 × CS → Prop, WP (if xc0 .eq (aB (aMayChange a s)) = true then k_Face_members_b32 F c else if xc2 .lt set 1 = true then k_Face_members_b32 F c else if xc2 .gt set 127 = true then k_Face_members_b32 F c else (k_Server_areKnown F c s set).bind fun p16 => if xc0 .ne p16 = true then (k_Server_setMembers F c s ((((cI c 9 s 7 0) &&& 127) ||| (set <<< ((7 : Int32) &&& 31))) ||| ((((cI c 9 s 7 0) >>> ((14 : Int32) &&& 31)) &&& (set ^^^ (-1))) <<< ((14 : Int32) &&& 31)))).bind fun p31 => if (1 : Int32) = 0 ∨ (1 : Int32) = 1 then some ((1 : Int32), p31) else none else k_Face_members_b32 F c) Q → WP (k_Face_members F c 0 (Int32.ofNat s) set) Q := by
    intro Q k
    unfold k_Face_members k_Face_members_b0
    rw [K_host hs]
    refine WP_b ?_
    rw [K_mayChange h hs (hb s hs) (h80 s hs)]
    exact WP_b k
  by_cases q2 : (aMayChange a s && aInR set 1 127 && aKnown a s set) = true
  · rw [if_pos q2]
    rw [Bool.and_eq_true_iff, Bool.and_eq_true_iff] at q2
    obtain ⟨⟨y1, y2⟩, y3⟩ := q2
    have hr : aS a 73 s = 3 := by
      unfold aMayChange aMay at y1
      simp only [Bool.and_eq_true, decide_eq_true_eq] at y1
      exact y1.1.1.1.1.2
    have hu : aS a 52 s = 1 := by
      unfold aMayChange aMay at y1
      simp only [Bool.and_eq_true, decide_eq_true_eq] at y1
      exact y1.1.1.1.1.1
    refine Or.inl ⟨rfl, start _ ?_⟩
    have y2 := inR_t.mp y2
    rw [L_1, L_127] at y2
    rw [y1, if_neg (fun z => absurd (c0_eq.mp z) (by decide)), if_neg (fun z => by have z := g2_lt.mp z; rw [L_1] at z; omega), if_neg (fun z => by have z := g2_gt.mp z; rw [L_127] at z; omega), K_areKnown (by omega) h hs hr, y3]
    refine WP_b ?_
    rw [if_pos (c0_ne.mpr (show ¬ aB true = 0 by decide)), e65]
    have ec : (((aS a 65 s) &&& (127 : Int32)) ||| (set <<< ((7 : Int32) &&& (31 : Int32)))) ||| ((((aS a 65 s) >>> ((14 : Int32) &&& (31 : Int32))) &&& (set ^^^ (-1 : Int32))) <<< ((14 : Int32) &&& (31 : Int32))) = aOldM (aS a 65 s) ||| (set <<< (7 : Int32)) ||| ((aLearn (aS a 65 s) &&& (~~~ set)) <<< (14 : Int32)) := by
      rw [hcode s hs, i_not]
      rfl
    rw [ec]
    refine WP_call (K_setMembers hF h hs hu hr hx (hp s hs y1) hm) (fun c1 h1 => ?_)
    rw [if_pos (Or.inr rfl)]
    exact WP_some ⟨h1, rfl⟩
  · rw [if_neg q2]
    refine Or.inl ⟨rfl, start _ ?_⟩
    cases z1 : aMayChange a s with
    | false =>
      rw [if_pos (show xc0 .eq (aB false) = true by decide)]
      exact no _ rfl
    | true =>
      rw [if_neg (fun z => absurd (c0_eq.mp z) (by decide))]
      by_cases z2 : set.toInt < 1
      · rw [if_pos (g2_lt.mpr (by rw [L_1]; exact z2))]
        exact no _ rfl
      rw [if_neg (fun z => z2 (by have z := g2_lt.mp z; rw [L_1] at z; exact z))]
      by_cases z3 : 127 < set.toInt
      · rw [if_pos (g2_gt.mpr (by rw [L_127]; exact z3))]
        exact no _ rfl
      rw [if_neg (fun z => z3 (by have z := g2_gt.mp z; rw [L_127] at z; exact z))]
      have hr : aS a 73 s = 3 := by
        unfold aMayChange aMay at z1
        simp only [Bool.and_eq_true, decide_eq_true_eq] at z1
        exact z1.1.1.1.1.2
      have z4 : aKnown a s set = false := by
        cases z : aKnown a s set with
        | false => rfl
        | true =>
          refine absurd ?_ q2
          rw [z1, z, inR_t.mpr (by rw [L_1, L_127]; omega)]
          rfl
      rw [K_areKnown (by omega) h hs hr, z4]
      refine WP_b ?_
      rw [if_neg (show ¬ xc0 .ne (aB false) = true by decide)]
      exact no _ rfl
theorem K_learnersF {F : Nat} {c : CS} {a : AA} {x set : Int32} {U : Nat → Int32} {N : Nat × Nat} (hF : 130 ≤ F) (h : RC c a (([], U), N)) (hb : ∀ s, s < 7 → aS a 52 s = 0 ∨ aS a 52 s = 1) (h80 : ∀ s, s < 7 → aS a 80 s = -1 ∨ 0 ≤ aS a 80 s) (hx : RX a) (hp : ∀ s, s < 7 → aMayChange a s = true → pApp a s) (hm : mdOK a 0) : cUpd a (([], U), N) (A_learners a x set) (k_Face_learners F c 0 x set) (k_Face_host_J c 0 x) none := by
  unfold A_learners
  by_cases q1 : aInR x 0 6 = true
  rotate_left
  · have q1 := b_false q1
    rw [q1]
    exact Or.inr ⟨rfl, rfl, Or.inl (K_hostJ q1)⟩
  obtain ⟨s, hs, e⟩ := inR_6 q1
  subst e
  rw [q1, i_cl (by omega), if_neg (show ¬ (!true) = true by decide)]
  have e65 : cI c 9 s 7 0 = aS a 65 s := K_r h (F := 65) (cl := 9) (f := 7) (by decide) hs
  have no : ∀ (m : Option (Int32 × CS)), m = k_Face_learners_b42 F c → WP m (fun p => RC p.2 a (([], U), N) ∧ p.1 = 0) := by
    intro m hm
    rw [hm]
    unfold k_Face_learners_b42
    rw [if_pos (Or.inl rfl)]
    exact WP_some ⟨h, rfl⟩
  dsimp only
  have start : ∀ Q : Int32 × CS → Prop, WP (if xc0 .eq (aB (aMayChange a s)) = true then k_Face_learners_b42 F c else if xc0 .lt set = true then k_Face_learners_b42 F c else if xc2 .gt set 127 = true then k_Face_learners_b42 F c else if xc0 .eq (set &&& ((cI c 9 s 7 0) &&& 127)) = true then (k_Server_setMembers F c s (((cI c 9 s 7 0) &&& 127) ||| (set <<< ((14 : Int32) &&& 31)))).bind fun p22 => if (1 : Int32) = 0 ∨ (1 : Int32) = 1 then some ((1 : Int32), p22) else none else k_Face_learners_b42 F c) Q → WP (k_Face_learners F c 0 (Int32.ofNat s) set) Q := by
    intro Q k
    unfold k_Face_learners k_Face_learners_b0
    rw [K_host hs]
    refine WP_b ?_
    rw [K_mayChange h hs (hb s hs) (h80 s hs)]
    exact WP_b k
  by_cases q2 : (aMayChange a s && aInR set 0 127 && decide (set &&& aOldM (aS a 65 s) = 0)) = true
  · rw [if_pos q2]
    rw [Bool.and_eq_true_iff, Bool.and_eq_true_iff] at q2
    obtain ⟨⟨y1, y2⟩, y3⟩ := q2
    have hr : aS a 73 s = 3 := by
      unfold aMayChange aMay at y1
      simp only [Bool.and_eq_true, decide_eq_true_eq] at y1
      exact y1.1.1.1.1.2
    have hu : aS a 52 s = 1 := by
      unfold aMayChange aMay at y1
      simp only [Bool.and_eq_true, decide_eq_true_eq] at y1
      exact y1.1.1.1.1.1
    refine Or.inl ⟨rfl, start _ ?_⟩
    have y2 := inR_t.mp y2
    rw [i_0, L_127] at y2
    rw [y1, if_neg (fun z => absurd (c0_eq.mp z) (by decide)), if_neg (fun z => by have z := g0_lt.mp z; omega), if_neg (fun z => by have z := g2_gt.mp z; rw [L_127] at z; omega), e65, if_pos (show xc0 .eq (set &&& (aS a 65 s &&& 127)) = true from c0_eq.mpr (of_decide_eq_true y3))]
    refine WP_call (K_setMembers hF h hs hu hr hx (hp s hs y1) hm) (fun c1 h1 => ?_)
    rw [if_pos (Or.inr rfl)]
    exact WP_some ⟨h1, rfl⟩
  · rw [if_neg q2]
    refine Or.inl ⟨rfl, start _ ?_⟩
    cases z1 : aMayChange a s with
    | false =>
      rw [if_pos (show xc0 .eq (aB false) = true by decide)]
      exact no _ rfl
    | true =>
      rw [if_neg (fun z => absurd (c0_eq.mp z) (by decide))]
      by_cases z2 : set.toInt < 0
      · rw [if_pos (g0_lt.mpr z2)]
        exact no _ rfl
      rw [if_neg (fun z => z2 (g0_lt.mp z))]
      by_cases z3 : 127 < set.toInt
      · rw [if_pos (g2_gt.mpr (by rw [L_127]; exact z3))]
        exact no _ rfl
      rw [if_neg (fun z => z3 (by have z := g2_gt.mp z; rw [L_127] at z; exact z)), e65]
      have z4 : ¬ set &&& aOldM (aS a 65 s) = 0 := by
        intro z
        refine q2 ?_
        rw [z1, decide_eq_true z, inR_t.mpr (by rw [i_0, L_127]; omega)]
        rfl
      rw [if_neg (show ¬ xc0 .eq (set &&& (aS a 65 s &&& 127)) = true from fun z => z4 (c0_eq.mp z))]
      exact no _ rfl
theorem K_handF {F : Nat} {c : CS} {a : AA} {x t : Int32} {U : Nat → Int32} {N : Nat × Nat} (hF : 130 ≤ F) (h : RC c a (([], U), N)) (hb : ∀ s, s < 7 → aS a 52 s = 0 ∨ aS a 52 s = 1) (h80 : ∀ s, s < 7 → aS a 80 s = -1 ∨ 0 ≤ aS a 80 s) (hx : RX a) : cUpd a (([], U), N) (A_hand a x t) (k_Face_hand F c 0 x t) (k_Face_host_J c 0 x) none := by
  unfold A_hand
  by_cases q1 : aInR x 0 6 = true
  rotate_left
  · have q1 := b_false q1
    rw [q1]
    exact Or.inr ⟨rfl, rfl, Or.inl (K_hostJ q1)⟩
  obtain ⟨s, hs, e⟩ := inR_6 q1
  subst e
  rw [q1, i_cl (show s < 2147483648 by omega), if_neg (show ¬ (!true) = true by decide)]
  obtain ⟨_, wl, _, _, wd⟩ := RX_W hx hs
  have no : WP (k_Face_hand_b39 F c) (fun p => RC p.2 a (([], U), N) ∧ p.1 = 0) := by
    unfold k_Face_hand_b39
    rw [if_pos (Or.inl rfl)]
    exact WP_some ⟨h, rfl⟩
  dsimp only
  obtain ⟨vs, v1, v2⟩ := K_voters h hs
  have start : ∀ Q : Int32 × CS → Prop, WP (if xc0 .eq (aB (aMay a s)) = true then k_Face_hand_b39 F c else if xc0 .lt t = true then k_Face_hand_b39 F c else if xc2 .ge t 7 = true then k_Face_hand_b39 F c else if xc2 .eq t (Int32.ofNat s) = true then k_Face_hand_b39 F c else if xc0 .ne ((vs >>> (t &&& 31)) &&& 1) = true then (k_Server_handOver F c s t).bind fun p22 => if (1 : Int32) = 0 ∨ (1 : Int32) = 1 then some ((1 : Int32), p22) else none else k_Face_hand_b39 F c) Q → WP (k_Face_hand F c 0 (Int32.ofNat s) t) Q := by
    intro Q k
    unfold k_Face_hand k_Face_hand_b0
    rw [K_host hs]
    refine WP_b ?_
    rw [K_mayLead h hs (hb s hs) (h80 s hs)]
    refine WP_b ?_
    rw [v1]
    exact k
  by_cases q2 : (aMay a s && aInR t 0 6 && !decide (t = Int32.ofNat s) && aVoter a s t.toNatClampNeg) = true
  · rw [if_pos q2]
    rw [Bool.and_eq_true_iff, Bool.and_eq_true_iff, Bool.and_eq_true_iff] at q2
    obtain ⟨⟨⟨y1, y2⟩, y3⟩, y4⟩ := q2
    have hr : aS a 73 s = 3 := by
      unfold aMay at y1
      simp only [Bool.and_eq_true, decide_eq_true_eq] at y1
      exact y1.1.2
    have hu : aS a 52 s = 1 := by
      unfold aMay at y1
      simp only [Bool.and_eq_true, decide_eq_true_eq] at y1
      exact y1.1.1
    obtain ⟨p, hp, ep⟩ := inR_6 y2
    subst ep
    have ev := Int32.toInt_ofNat_of_lt (n := p) (by omega)
    rw [i_cl (by omega)] at y4 ⊢
    have y3 : ¬ Int32.ofNat p = Int32.ofNat s := by
      intro z
      rw [decide_eq_true z] at y3
      exact absurd y3 (by decide)
    refine Or.inl ⟨rfl, start _ ?_⟩
    rw [y1, if_neg (fun z => absurd (c0_eq.mp z) (by decide)), if_neg (fun z => by have z := g0_lt.mp z; omega), if_neg (fun z => by have z := g2_ge.mp z; rw [L_7] at z; omega), if_neg (fun z => y3 (c2_eq.mp z)), if_pos (c0_ne.mpr (fun z => by
      have z := (bit_k hp).mp (c0_eq.mpr z)
      rw [v2 p hp, y4] at z
      exact absurd z (by decide)))]
    refine WP_call (K_handOver hF h hs hp hu hr wl (wd hr) (Nat.zero_le _)) (fun c1 h1 => ?_)
    rw [if_pos (Or.inr rfl)]
    exact WP_some ⟨h1, rfl⟩
  · rw [if_neg q2]
    refine Or.inl ⟨rfl, start _ ?_⟩
    cases z1 : aMay a s with
    | false =>
      rw [if_pos (show xc0 .eq (aB false) = true by decide)]
      exact no
    | true =>
      rw [if_neg (fun z => absurd (c0_eq.mp z) (by decide))]
      by_cases z2 : t.toInt < 0
      · rw [if_pos (g0_lt.mpr z2)]
        exact no
      rw [if_neg (fun z => z2 (g0_lt.mp z))]
      by_cases z3 : 7 ≤ t.toInt
      · rw [if_pos (g2_ge.mpr (by rw [L_7]; exact z3))]
        exact no
      rw [if_neg (fun z => z3 (by have z := g2_ge.mp z; rw [L_7] at z; exact z))]
      have zr : aInR t 0 6 = true := inR_t.mpr (by rw [i_0, L_6]; omega)
      obtain ⟨p, hp, ep⟩ := inR_6 zr
      subst ep
      by_cases z4 : Int32.ofNat p = Int32.ofNat s
      · rw [if_pos (c2_eq.mpr z4)]
        exact no
      rw [if_neg (fun z => z4 (c2_eq.mp z))]
      have z5 : aVoter a s p = false := by
        cases z : aVoter a s p with
        | false => rfl
        | true =>
          refine absurd ?_ q2
          rw [z1, zr, decide_eq_false z4, i_cl (by omega), z]
          rfl
      rw [if_neg (fun z => c0_ne.mp z (c0_eq.mp ((bit_k hp).mpr (by rw [v2 p hp]; exact z5))))]
      exact no
theorem K_stopF {F : Nat} {c : CS} {a : AA} {x : Int32} {U : Nat → Int32} {N : Nat × Nat} (hF : 130 ≤ F) (h : RC c a (([], U), N)) (hb : ∀ s, s < 7 → aS a 52 s = 0 ∨ aS a 52 s = 1) (wf : ∀ s, s < 7 → ∀ l ∈ aWt a s, wfL l) : cUpd a (([], U), N) (A_stop a x) (k_Face_stop F c 0 x) (k_Face_host_J c 0 x) none := by
  unfold A_stop
  by_cases q1 : aInR x 0 6 = true
  rotate_left
  · have q1 := b_false q1
    rw [q1]
    exact Or.inr ⟨rfl, rfl, Or.inl (K_hostJ q1)⟩
  obtain ⟨s, hs, e⟩ := inR_6 q1
  subst e
  rw [q1, i_cl (by omega), if_neg (show ¬ (!true) = true by decide)]
  dsimp only
  have e52 : cI c 13 s 8 0 = aS a 52 s := K_r h (F := 52) (cl := 13) (f := 8) (by decide) hs
  rcases hb s hs with q | q
  · rw [if_pos q]
    refine Or.inl ⟨rfl, ?_⟩
    unfold k_Face_stop k_Face_stop_b0 k_Face_stop_b19
    rw [K_host hs]
    refine WP_b ?_
    rw [e52, q, if_pos (by decide), if_pos (Or.inl rfl)]
    exact WP_some ⟨h, rfl⟩
  · rw [if_neg (by rw [q]; decide)]
    refine Or.inl ⟨rfl, ?_⟩
    unfold k_Face_stop k_Face_stop_b0 k_Face_stop_b19
    rw [K_host hs]
    refine WP_b ?_
    rw [e52, q, if_neg (by decide)]
    refine WP_call (K_goDown hF h hs (wf s hs) (Nat.zero_le _)) (fun c1 h1 => ?_)
    rw [if_pos (Or.inr rfl)]
    exact WP_some ⟨h1, rfl⟩
/-! a server falls -/
theorem RC_63 {c : CS} {a : AA} {v : CV} {s f : Nat} {w : Int32} (h : RC c a v) (hf : f = 2 ∨ f = 3) : RC (csI c 6 s 3 f w) a v := by
  have hF : Ck [195] s c (csI c 6 s 3 f w) := Ck_I (cl := 6) (i := s) (f := 3) (Or.inr rfl)
  have hpg : ∀ t, t < 7 → KPg (csI c 6 s 3 f w) t (aFc a t) (aFk a t) := by
    intro t ht g hg
    obtain ⟨y1, y2, y3, y4, y5⟩ := h.2.2.2.2.2.2.2.2.2.1 t ht g hg
    have o : ∀ q x, Sm c (csI c 6 s 3 f w) 11 q x := fun q x => ⟨fun j => csI_cl (by decide), fun _ => rfl, rfl, rfl⟩
    refine ⟨PG_fr (fun x _ => o _ x) y1, PG_fr (fun x _ => o _ x) y2, fun w1 w2 => ?_, fun z => ⟨(y4 z).1, fun w2 => KSn_fr (fun x _ => o _ x) ((y4 z).2 w2)⟩, y5⟩
    obtain ⟨m, m1, m2⟩ := y3 w1 w2
    exact ⟨m, (csI_j (by omega)).trans m1, m2⟩
  exact ⟨KSc_fr hF (by decide) h.1, fun s hs hu => KFr_fr hF (by decide) (h.2.1 s hs hu), fun s hs => KHd_fr hF (by decide) (h.2.2.1 s hs), fun s hs hr => KLd_fr hF (by decide) (h.2.2.2.1 s hs hr), fun s hs hu => KRq_fr hF (by decide) (h.2.2.2.2.1 s hs hu), KBl_fr hF (by decide) h.2.2.2.2.2.1, KDa_fr hF (by decide) h.2.2.2.2.2.2.1, fun s hs => KLw_fr hF (by decide) (h.2.2.2.2.2.2.2.1 s hs), fun s hs => KG_fr hF (by decide) (h.2.2.2.2.2.2.2.2.1 s hs), hpg, fun s hs => KCh_fr hF (by decide) (h.2.2.2.2.2.2.2.2.2.2.1 s hs), fun s hs => KMc_fr hF (by decide) (h.2.2.2.2.2.2.2.2.2.2.2.1 s hs), fun s hs => KPc_fr hF (by decide) (h.2.2.2.2.2.2.2.2.2.2.2.2.1 s hs), fun k hk => KCl_fr hF (by decide) (h.2.2.2.2.2.2.2.2.2.2.2.2.2.1 k hk), fun k hk => KDn_fr hF (by decide) (h.2.2.2.2.2.2.2.2.2.2.2.2.2.2.1 k hk), KAk_fr hF (by decide) h.2.2.2.2.2.2.2.2.2.2.2.2.2.2.2.1, KFc_fr hF (by decide) h.2.2.2.2.2.2.2.2.2.2.2.2.2.2.2.2.1, fun s hs => KId_fr hF (by decide) (h.2.2.2.2.2.2.2.2.2.2.2.2.2.2.2.2.2.1 s hs), fun k hk => KIc_fr hF (by decide) (h.2.2.2.2.2.2.2.2.2.2.2.2.2.2.2.2.2.2.1 k hk), KLt_fr hF rfl (by decide) h.2.2.2.2.2.2.2.2.2.2.2.2.2.2.2.2.2.2.2.1, KRm_fr hF rfl (by decide) h.2.2.2.2.2.2.2.2.2.2.2.2.2.2.2.2.2.2.2.2.1, h.2.2.2.2.2.2.2.2.2.2.2.2.2.2.2.2.2.2.2.2.2.1, h.2.2.2.2.2.2.2.2.2.2.2.2.2.2.2.2.2.2.2.2.2.2⟩
theorem RC_62 {c : CS} {a : AA} {v : CV} {s f : Nat} (h : RC c a v) : RC (csI c 6 s 2 f (aS a 43 (16 * s + f))) a v := by
  have hF : Ck [194] s c (csI c 6 s 2 f (aS a 43 (16 * s + f))) := Ck_I (cl := 6) (i := s) (f := 2) (Or.inr rfl)
  have hlw : ∀ t, t < 7 → KLw (csI c 6 s 2 f (aS a 43 (16 * s + f))) a t := by
    intro t ht g hg
    by_cases q : t = s ∧ g = f
    · obtain ⟨q1, q2⟩ := q
      subst q1
      subst q2
      exact csI_e
    · exact (csI_ne (fun z => q ⟨z.2.1, z.2.2.2⟩)).trans (h.2.2.2.2.2.2.2.1 t ht g hg)
  exact ⟨KSc_fr hF (by decide) h.1, fun s hs hu => KFr_fr hF (by decide) (h.2.1 s hs hu), fun s hs => KHd_fr hF (by decide) (h.2.2.1 s hs), fun s hs hr => KLd_fr hF (by decide) (h.2.2.2.1 s hs hr), fun s hs hu => KRq_fr hF (by decide) (h.2.2.2.2.1 s hs hu), KBl_fr hF (by decide) h.2.2.2.2.2.1, KDa_fr hF (by decide) h.2.2.2.2.2.2.1, hlw, fun s hs => KG_fr hF (by decide) (h.2.2.2.2.2.2.2.2.1 s hs), fun s hs => KPg_fr hF (by decide) (h.2.2.2.2.2.2.2.2.2.1 s hs), fun s hs => KCh_fr hF (by decide) (h.2.2.2.2.2.2.2.2.2.2.1 s hs), fun s hs => KMc_fr hF (by decide) (h.2.2.2.2.2.2.2.2.2.2.2.1 s hs), fun s hs => KPc_fr hF (by decide) (h.2.2.2.2.2.2.2.2.2.2.2.2.1 s hs), fun k hk => KCl_fr hF (by decide) (h.2.2.2.2.2.2.2.2.2.2.2.2.2.1 k hk), fun k hk => KDn_fr hF (by decide) (h.2.2.2.2.2.2.2.2.2.2.2.2.2.2.1 k hk), KAk_fr hF (by decide) h.2.2.2.2.2.2.2.2.2.2.2.2.2.2.2.1, KFc_fr hF (by decide) h.2.2.2.2.2.2.2.2.2.2.2.2.2.2.2.2.1, fun s hs => KId_fr hF (by decide) (h.2.2.2.2.2.2.2.2.2.2.2.2.2.2.2.2.2.1 s hs), fun k hk => KIc_fr hF (by decide) (h.2.2.2.2.2.2.2.2.2.2.2.2.2.2.2.2.2.2.1 k hk), KLt_fr hF rfl (by decide) h.2.2.2.2.2.2.2.2.2.2.2.2.2.2.2.2.2.2.2.1, KRm_fr hF rfl (by decide) h.2.2.2.2.2.2.2.2.2.2.2.2.2.2.2.2.2.2.2.2.1, h.2.2.2.2.2.2.2.2.2.2.2.2.2.2.2.2.2.2.2.2.2.1, h.2.2.2.2.2.2.2.2.2.2.2.2.2.2.2.2.2.2.2.2.2.2⟩
/-- a cut that cuts nothing -/
theorem K_cutNo {F : Nat} {c : CS} {a : AA} {v : CV} {s f : Nat} {n : Int32} (h : RC c a v) (hs : s < 7) (hf : f = 2 ∨ f = 3) (hn : (aFc a s f).1 1 ≤ n) (hl : aS a 43 (16 * s + f) = (aFc a s f).1 1) : WP (k_Disk_cutTo F c s (Int32.ofNat f) n) (fun c' => RC c' a v) := by
  have hf16 : f < 16 := by omega
  obtain ⟨y1, y2, y3, y4⟩ := h.2.2.2.2.2.2.2.2.2.1 s hs f hf16
  unfold k_Disk_cutTo k_Disk_cutTo_b0
  rw [cix0 hf16]
  refine WP_b ?_
  have e1 : k_Page_cutTo F c (30 * s + cpg f) n = some c := by
    unfold k_Page_cutTo k_Page_cutTo_b0 k_Page_cutTo_b48
    rw [y1.2.1, if_pos (c2_le.mpr hn)]
  rw [e1]
  refine WP_b (WP_eq (crd_n rfl (show f < 16 from hf16) (by omega)) (WP_b (WP_eq (cwr_n rfl (show f < 16 from hf16) (by omega)) ?_)))
  have e2 : cmin (cI c 6 s 2 f) (cI c 11 (30 * s + cpg f) 1 0) = aS a 43 (16 * s + f) := by
    rw [h.2.2.2.2.2.2.2.1 s hs f hf16, y1.2.1, hl, cmin_a]
    unfold aMin
    split <;> rfl
  rw [e2]
  exact WP_eq (crd_n rfl (show f < 16 from hf16) (by omega)) (WP_b (WP_eq (cwr_n rfl (show f < 16 from hf16) (by omega)) (WP_some (RC_63 (RC_62 h) hf))))
theorem put_same {a : AA} {s f : Nat} : aPut a s f (aFc a s f) = a := by
  show aFcS a s (aU (aFc a s) f (aFc a s f)) = a
  rw [aU_self]
  show (a.1, aWay a, aWt a, aLg a, aMc a, aSh a, aPm a, aU (aFc a) s (aFc a s), a.2.2.2.2.2.2.2.2) = a
  rw [aU_self]
  rfl
theorem sync_43 {a : AA} {s f : Nat} {x : Int32} : aSyncFile (aI a 43 (16 * s + f) x) s f = aSyncFile a s f := by
  unfold aSyncFile
  have e : aFkS (aI a 43 (16 * s + f) x) s (aU (aFk (aI a 43 (16 * s + f) x) s) f (aFc (aI a 43 (16 * s + f) x) s f)) = aI (aFkS a s (aU (aFk a s) f (aFc a s f))) 43 (16 * s + f) x := rfl
  rw [e, aI_II]
  rfl
def szOK (a : AA) (s : Nat) : Prop := ∀ f, f < 16 → ∃ S lo : Nat, (aFc a s f).1 1 = Int32.ofNat S ∧ aS a 43 (16 * s + f) = Int32.ofNat lo ∧ lo ≤ S ∧ S ≤ 14000 ∧ (f = 2 ∨ f = 3 → lo = S)
theorem RX_sz {a : AA} {s : Nat} (x : RX a) (hs : s < 7) (hk : crOK a s) : szOK a s := by
  obtain ⟨σ, u, h, hu⟩ := x
  obtain ⟨_, _, _, _, _, hdk, _, _, _, _, _, _, _, _, _, _, _, _, _, hloc, _⟩ := h
  intro f hf
  obtain ⟨z1, _⟩ := hdk s hs f hf
  obtain ⟨_, _, _, ⟨S, s1, s2, _⟩, _⟩ := z1
  have lc := hloc.2.2.1 s hs f hf
  rw [Int32.le_iff_toInt_le, Int32.le_iff_toInt_le, s2, Int32.toInt_ofNat_of_lt (by omega), i_0] at lc
  have el : aS a 43 (16 * s + f) = Int32.ofNat (aS a 43 (16 * s + f)).toInt.toNat := by
    apply Int32.toInt_inj.mp
    rw [Int32.toInt_ofNat_of_lt (by omega)]
    omega
  refine ⟨S, (aS a 43 (16 * s + f)).toInt.toNat, s2, el, by omega, s1, fun z => ?_⟩
  have e := (hk f hf).2 z
  have e := congrArg Int32.toInt e
  rw [s2, Int32.toInt_ofNat_of_lt (by omega)] at e
  omega
theorem K_fall1 {F : Nat} {c : CS} {a : AA} {v : CV} {s f : Nat} {r : Int64} {K : CS → Nat → Int64 → Int32 → Option CS} {Q : CS → Prop} (hF : 322 ≤ F) (h : RC c a v) (hs : s < 7) (hf : f < 16) (hz : ∃ S lo : Nat, (aFc a s f).1 1 = Int32.ofNat S ∧ aS a 43 (16 * s + f) = Int32.ofNat lo ∧ lo ≤ S ∧ S ≤ 14000 ∧ (f = 2 ∨ f = 3 → lo = S))
    (go : ∀ c', RC c' (aCrashFile a s f (aLcg r)) v → WP (K c' s (aLcg r) (Int32.ofNat (f + 1))) Q) :
    WP ((cix 6 0 (Int32.ofNat f)).bind fun n16 =>
      (crd c 6 s 2 (Int32.ofNat f)).bind fun x18 =>
      if xc0 .eq (lg_cmp ((((r * ((6364136223846793005 : Int64))) + ((1442695040888963407 : Int64))).toUInt64 >>> (((61 : Int32)).toInt64.toUInt64 &&& Int64.toUInt64 63)).toInt64) ((0 : Int64))) = true then (
        (cix 6 1 (Int32.ofNat f)).bind fun n27 =>
        (cix 6 0 (Int32.ofNat f)).bind fun n29 =>
        if (30 * s + ckp n27 = 30 * s + cpg n29) = (true = true) then (
          k_Disk_fall_b147 F K c s ((r * ((6364136223846793005 : Int64))) + ((1442695040888963407 : Int64))) (Int32.ofNat f)
        ) else (
          (cix 6 0 (Int32.ofNat f)).bind fun n32 =>
          (cix 6 1 (Int32.ofNat f)).bind fun n34 =>
          (crd c 6 s 3 (Int32.ofNat f)).bind fun x36 =>
          (k_Page_takeOver c (30 * s + cpg n32) (30 * s + ckp n34) x36).bind fun p38 =>
          (cix 6 0 (Int32.ofNat f)).bind fun n42 =>
          (cwr p38 6 s 3 (Int32.ofNat f) (cI p38 11 (30 * s + cpg n42) 5 0)).bind fun σ44 =>
          k_Disk_fall_b147 F K σ44 s ((r * ((6364136223846793005 : Int64))) + ((1442695040888963407 : Int64))) (Int32.ofNat f)
        )
      ) else (
        (crd c 6 s 2 (Int32.ofNat f)).bind fun x46 =>
        if (((((2 : Int32)) * (cmax ((0 : Int32)) ((cI c 11 (30 * s + cpg n16) 1 0) - x18))) + ((1 : Int32))).toInt64) = 0 then none else
        (k_Disk_cutTo F c s (Int32.ofNat f) (x46 + (((((((r * ((6364136223846793005 : Int64))) + ((1442695040888963407 : Int64))).toUInt64 >>> (((33 : Int32)).toInt64.toUInt64 &&& Int64.toUInt64 63)).toInt64) &&& ((1048575 : Int64))) - (((((r * ((6364136223846793005 : Int64))) + ((1442695040888963407 : Int64))).toUInt64 >>> (((33 : Int32)).toInt64.toUInt64 &&& Int64.toUInt64 63)).toInt64) &&& ((1048575 : Int64))) / (((((2 : Int32)) * (cmax ((0 : Int32)) ((cI c 11 (30 * s + cpg n16) 1 0) - x18))) + ((1 : Int32))).toInt64) * (((((2 : Int32)) * (cmax ((0 : Int32)) ((cI c 11 (30 * s + cpg n16) 1 0) - x18))) + ((1 : Int32))).toInt64)).toInt32))).bind fun p49 =>
        k_Disk_fall_b147 F K p49 s ((r * ((6364136223846793005 : Int64))) + ((1442695040888963407 : Int64))) (Int32.ofNat f)
      )) Q := by
  obtain ⟨S, lo, eS, el, hlo, hS, h23⟩ := hz
  obtain ⟨y1, y2, y3, y4, y5⟩ := h.2.2.2.2.2.2.2.2.2.1 s hs f hf
  have eL : (r * ((6364136223846793005 : Int64))) + ((1442695040888963407 : Int64)) = aLcg r := rfl
  rw [eL, cix0 hf, cix1 hf, show (((61 : Int32)).toInt64.toUInt64 &&& Int64.toUInt64 63) = 61 by decide, show (((33 : Int32)).toInt64.toUInt64 &&& Int64.toUInt64 63) = 33 by decide]
  generalize aLcg r = q at go
  have fin : ∀ c' b, RC c' b v → aSyncFile b s f = aCrashFile a s f q → WP (k_Disk_fall_b147 F K c' s q (Int32.ofNat f)) Q := by
    intro c' b hb eb
    unfold k_Disk_fall_b147
    refine WP_call (K_syncFile hb hs hf) (fun c2 h2 => ?_)
    have h2 := h2.1
    rw [eb] at h2
    rw [i_s]
    exact go c2 h2
  have ow : cOwn 11 (30 * s + cpg f) = s := (if_pos rfl).trans (pg_o hf).1
  refine WP_b (WP_eq (crd_n rfl (show f < 16 from hf) (by omega)) ?_)
  rw [h.2.2.2.2.2.2.2.1 s hs f hf, el, y1.2.1, eS, i_subn hlo, cmax_0 (by omega)]
  have ez : (xc0 .eq (lg_cmp ((q.toUInt64 >>> 61).toInt64) 0) = true) ↔ q.toUInt64 >>> 61 = 0 := by
    have e := lgc_0 (x := q.toUInt64 >>> 61)
    rw [c0_ne] at e
    rw [c0_eq]
    exact ⟨fun z => Classical.not_not.mp (fun w => e.mpr w z), fun z => Classical.not_not.mp (fun w => e.mp w z)⟩
  refine WP_if ez (fun qz => ?_) (fun qz => ?_)
  · refine WP_b (WP_b ?_)
    have eC : aCrashFile a s f q = aSyncFile (aPut a s f (aFk a s f)) s f := by
      rw [aCrashFile_e, if_pos qz]
    by_cases w : 30 * s + ckp f = 30 * s + cpg f
    · rw [if_pos (eq_true w |>.trans (eq_true rfl).symm)]
      have w23 : f = 2 ∨ f = 3 := ((cpg_i f hf f hf).2.2.mp (by omega)).2
      refine fin c a h ?_
      rw [eC, (y4 w23).1, put_same]
    · rw [if_neg (fun z => w (of_eq_true (z.trans (eq_true rfl))))]
      have n23 : f ≠ 2 ∧ f ≠ 3 := by
        refine ⟨fun z => w ?_, fun z => w ?_⟩ <;> subst z <;> rfl
      obtain ⟨m, e3, m1, m2, me⟩ := y3 n23.1 n23.2
      refine WP_b (WP_b (WP_eq (crd_n rfl (show f < 16 from hf) (by omega)) ?_))
      rw [e3]
      have room : (aWhole (aFk a s f)).length = 0 ∨ (30 * s + cpg f < 210 ∧ 6 ≤ (30 * s + cpg f) % 30) := by
        by_cases z : f < 4
        · left
          have e := (y5 z).2
          unfold aWhole
          rw [e]
          rfl
        · exact Or.inr ⟨(pg_t hs hf).1, (pg_6 hf (by omega)).1⟩
      refine WP_call (K_takeOver y1 y2 (fun z => w z.symm) m2 m1 me.symm room (cap_7 h.2.2.2.2.2.2.2.2.2.2.2.2.2.2.2.2.2.2.2.2.1 (pg_t hs hf).1)) (fun c1 hc1 => ?_)
      obtain ⟨p1, p2, p3, p4⟩ := hc1
      have y2' : PG c1 (30 * s + ckp f) (aFk a s f) := PG_fr (c := c) (fun g _ => p4 11 _ g (fun z => w z.2.1)) y2
      refine WP_b ?_
      rw [p1.2.2.2.2.2.1]
      refine WP_eq (cwr_n rfl (show f < 16 from hf) (by omega)) ?_
      have hF1 : Ck [352, 353, 354, 355, 356, 357, 358, 359] s c c1 := by
        intro cl i g _ z
        refine p4 cl i g (fun y => ?_)
        obtain ⟨w1, w2, w3⟩ := y
        subst w1
        subst w2
        rcases z with z | ⟨_, z⟩
        · exact z ((by decide : ∀ g, g < 8 → 32 * 11 + g ∈ [352, 353, 354, 355, 356, 357, 358, 359]) g w3)
        · exact z ow
      have s2 : ∀ cl i g, cl ≠ 6 → Sm c1 (csI c1 6 s 3 f (Int32.ofNat (aWhole (aFk a s f)).length)) cl i g := fun cl i g n => ⟨fun j => csI_cl n, fun _ => rfl, rfl, rfl⟩
      have hF2 : Ck PD s c (csI c1 6 s 3 f (Int32.ofNat (aWhole (aFk a s f)).length)) := Ck_w (Ck_t hF1 (Ck_I (Or.inr rfl))) (by decide)
      have e6 : ∀ g j, cI c1 6 s g j = cI c 6 s g j := fun g j => (p4 6 s g (fun y => absurd y.1 (by decide))).1 j
      refine fin _ (aI (aPut a s f (aFk a s f)) 43 (16 * s + f) (aS a 43 (16 * s + f))) ?_ (by rw [eC, sync_43])
      refine RC_pgc h hs hf n23 (fun z => (y5 z).2) hF2 p3 (KRm_eq (c := c1) rfl rfl rfl (p2 v h.2.2.2.2.2.2.2.2.2.2.2.2.2.2.2.2.2.2.2.2.1)) (PG_fr (fun g _ => s2 11 _ g (by decide)) p1) (PG_fr (fun g _ => s2 11 _ g (by decide)) y2') ?_ (fun x g hx n1 n2 hg => Sm_t (p4 11 x g (fun y => n1 y.2.1)) (s2 11 x g (by decide))) (fun g hg z => (csI_j z).trans (e6 3 g)) (fun g hg => ?_)
      · exact ⟨_, csI_e, Nat.le_refl _, Nat.le_refl _, rfl⟩
      · rw [csI_f (by decide), e6]
        by_cases z : g = f
        · rw [if_pos z, z]
          exact h.2.2.2.2.2.2.2.1 s hs f hf
        · rw [if_neg z]
  · refine WP_eq (crd_n rfl (show f < 16 from hf) (by omega)) ?_
    rw [h.2.2.2.2.2.2.2.1 s hs f hf, el]
    obtain ⟨k, ek, hk⟩ := crK_b (r := q) (d := S - lo) (by omega)
    have es : (2 * Int32.ofNat (S - lo) + 1).toInt64 = Int64.ofNat (2 * (S - lo) + 1) := by
      rw [show (2 : Int32) * Int32.ofNat (S - lo) = Int32.ofNat (2 * (S - lo)) from i_mc (c := 2), i_s]
      apply Int64.toInt_inj.mp
      rw [Int32.toInt_toInt64, Int32.toInt_ofNat_of_lt (by omega), Int64.toInt_ofNat_of_lt (by omega)]
    have n0 : ¬ (2 * Int32.ofNat (S - lo) + 1).toInt64 = 0 := by
      rw [es]
      intro z
      have := congrArg Int64.toInt z
      rw [Int64.toInt_ofNat_of_lt (by omega), show (0 : Int64).toInt = 0 by decide] at this
      omega
    rw [if_neg n0]
    have ekk : ((((q.toUInt64 >>> 33).toInt64) &&& ((1048575 : Int64))) - (((q.toUInt64 >>> 33).toInt64) &&& ((1048575 : Int64))) / ((2 * Int32.ofNat (S - lo) + 1).toInt64) * ((2 * Int32.ofNat (S - lo) + 1).toInt64)).toInt32 = Int32.ofNat k := ek
    rw [ekk, i_ad]
    have eC : aCrashFile a s f q = aSyncFile (aPut a s f (aU (aFc a s f).1 1 (aMin (Int32.ofNat S) (Int32.ofNat (lo + k))), (aFc a s f).2)) s f := by
      rw [aCrashFile_e, if_neg qz, eS, el, i_subn hlo, ek, i_ad]
    by_cases w : f = 2 ∨ f = 3
    · have e1 := h23 w
      have k0 : k = 0 := by omega
      refine WP_call (K_cutNo h hs w (by rw [eS, Int32.le_iff_toInt_le, Int32.toInt_ofNat_of_lt (by omega), Int32.toInt_ofNat_of_lt (by omega)]; omega) (by rw [el, eS, e1])) (fun c1 h1 => fin c1 a h1 ?_)
      rw [eC]
      have em : aMin (Int32.ofNat S) (Int32.ofNat (lo + k)) = (aFc a s f).1 1 := by
        rw [k0, e1, eS]
        unfold aMin
        split <;> rfl
      have e2 : ((aU (aFc a s f).1 1 ((aFc a s f).1 1), (aFc a s f).2) : AF) = aFc a s f := by
        rw [aU_self]
      rw [em, e2, put_same]
    · refine WP_call (K_cutTo (by omega) h hs hf ⟨fun z => w (Or.inl z), fun z => w (Or.inr z)⟩) (fun c1 h1 => fin c1 _ h1 ?_)
      rw [eC]
      have e2 : aCut a s f (Int32.ofNat (lo + k)) = aI (aPut a s f (aU (aFc a s f).1 1 (aMin ((aFc a s f).1 1) (Int32.ofNat (lo + k))), (aFc a s f).2)) 43 (16 * s + f) (aMin (aS a 43 (16 * s + f)) (aMin ((aFc a s f).1 1) (Int32.ofNat (lo + k)))) := rfl
      rw [e2, sync_43, eS]
theorem K_fallD {F : Nat} {c : CS} {a : AA} {v : CV} {s : Nat} {r : Int64} (hF : 322 ≤ F) (h : RC c a v) (hs : s < 7) (hz : szOK a s) : WP (k_Disk_fall F c s r) (fun c' => RC c' (aCrashFiles a s r 16).1 v) := by
  have key : ∀ n f c1, 17 ≤ f + n → f ≤ 16 → RC c1 (aCrashFiles a s r f).1 v → WP (k_Disk_fall_b5 F n c1 s (aCrashFiles a s r f).2 (Int32.ofNat f)) (fun c' => RC c' (aCrashFiles a s r 16).1 v) := by
    intro n
    induction n with
    | zero => intro f c1 h1 h2; omega
    | succ n ih =>
      intro f c1 h1 h2 h3
      unfold k_Disk_fall_b5
      dsimp only
      by_cases q : f = 16
      · subst q
        rw [if_pos (by decide)]
        exact WP_some h3
      · rw [if_neg (fun y => by
          rw [show (16 : Int32) = Int32.ofNat 16 from rfl] at y
          have := (i_gei (by omega) (by omega)).mp y
          omega)]
        have hf : f < 16 := by omega
        obtain ⟨x1, x2, x3⟩ := (crFs (a := a) (s := s) (r := r) f).2 f (Nat.le_refl _)
        refine K_fall1 hF h3 hs hf (by rw [x1, x3]; exact hz f hf) (fun c' h' => ?_)
        exact ih (f + 1) c' (by omega) (by omega) h'
  unfold k_Disk_fall k_Disk_fall_b0
  exact key F 0 c (by omega) (by omega) h
theorem cladd_gh {s : Nat} {l : List Nat} {c : CS} {ad : Nat} : cladd (gh s l c) 14 0 16 ad = (cladd c 14 0 16 ad).map (gh s l) := by
  unfold cladd
  have e : cS (gh s l c) 14 0 16 = cS c 14 0 16 := rfl
  rw [e]
  exact clput_gh
theorem K_spareAll {F : Nat} {c : CS} {a : AA} {s : Nat} {H : List (Nat × Option AL)} {U : Nat → Int32} {N : Nat × Nat} (hF : 40 ≤ F) (h : RC c a ((H, U), N)) (hs : s < 7) : WP (k_Server_fall_b10 F F c s 0) (fun c' => RC c' (aI (aI (aI (aI (aWtS a s []) 52 s 0) 71 s 0) 29 s (-1)) 31 s (-1)) ((H, U), N)) := by
  have hlen := F2_len (h.2.2.2.2.2.2.2.2.2.2.2.2.2.2.2.2.2.2.2.1.2.2.1 s hs)
  have h32 := h.2.2.2.2.2.2.2.2.2.2.2.2.2.2.2.2.2.2.2.1.2.2.2.2.2.1 s hs
  generalize hL : cS c 13 s 7 = L at hlen h32
  have key : ∀ (n i : Nat) (c : CS) (X : AA), L.length + 1 ≤ i + n → i ≤ L.length → cS c 13 s 7 = L → aWt X s = (aWt a s).drop i → aWtS X s [] = aWtS a s [] → RC (gh s (L.drop i) c) X ((H, U), N) → WP (k_Server_fall_b10 F n c s (Int32.ofNat i)) (fun c' => RC c' (aI (aI (aI (aI (aWtS a s []) 52 s 0) 71 s 0) 29 s (-1)) 31 s (-1)) ((H, U), N)) := by
    intro n
    induction n with
    | zero => intro i c X h1 h2; omega
    | succ n ih =>
      intro i c X h1 h2 h3 h4 h5 h6
      have esz : clsz c 13 s 7 = Int32.ofNat L.length := by
        unfold clsz
        rw [h3]
      unfold k_Server_fall_b10
      dsimp only
      rw [esz]
      refine WP_if (i_gei (by omega) (by omega)) (fun q => ?_) (fun q => ?_)
      · have : i = L.length := by omega
        subst this
        have d0 : (aWt a s).drop L.length = [] := List.drop_of_length_le (by omega)
        rw [d0] at h4
        rw [List.drop_of_length_le (Nat.le_refl _)] at h6
        have eX : aWtS a s [] = X := by
          rw [← h5, ← h4]
          exact aWtS_same
        rw [eX]
        exact WP_b (WP_call (K_beDown (RC_ghc h6) hs) (fun c2 h2 => WP_some h2))
      · have hi : i < L.length := by omega
        have hi2 : i < (aWt a s).length := by omega
        have dL : L.drop i = L[i] :: L.drop (i + 1) := List.drop_eq_getElem_cons hi
        have dW : (aWt a s).drop i = (aWt a s)[i] :: (aWt a s).drop (i + 1) := List.drop_eq_getElem_cons hi2
        rw [clget_n (n := i) rfl (by omega) (show (cS c 13 s 7)[i]? = some L[i] by rw [h3]; exact List.getElem?_eq_getElem hi)]
        refine WP_b ?_
        rw [dW] at h4
        rw [dL] at h6
        generalize L[i] = x at h6
        generalize (aWt a s)[i] = l at h4
        have h7 := RC_ghd (r := L.drop (i + 1)) (ws := (aWt a s).drop (i + 1)) h6 hs (if_pos ⟨rfl, rfl, rfl⟩) h4
        rw [gh_gh] at h7
        obtain ⟨c1', e1, h8⟩ := K_spare h7
        rw [cladd_gh] at e1
        cases hp : cladd c 14 0 16 x with
        | none =>
          rw [hp] at e1
          exact absurd e1 (fun z => by cases (show (none : Option CS) = some c1' from z))
        | some c1 =>
          rw [hp] at e1
          have e2 : gh s (L.drop (i + 1)) c1 = c1' := Option.some.inj e1
          have e3 : gh s L c1 = c1 := by
            have y := @cladd_gh s L c x
            rw [← h3, gh_self, hp] at y
            have y2 : c1 = gh s (cS c 13 s 7) c1 := Option.some.inj y
            rw [h3] at y2
            exact y2.symm
          have e4 : cS c1 13 s 7 = L := by
            rw [← e3]
            exact if_pos ⟨rfl, rfl, rfl⟩
          refine WP_b ?_
          rw [i_s]
          rw [← e2] at h8
          refine ih (i + 1) c1 _ (by omega) (by omega) e4 ?_ ?_ h8
          · exact if_pos rfl
          · rw [aWtS_wtS]
            exact h5
  refine key F 0 c a (by omega) (by omega) hL rfl rfl ?_
  show RC (gh s L c) a ((H, U), N)
  rw [← hL, gh_self]
  exact h
/-- the disk's part of a fall and what is dropped commute -/
theorem crash_down {a : AA} {s f : Nat} {r : Int64} : aCrashFile (aDown a s) s f r = aDown (aCrashFile a s f r) s := by
  have e43 : aS (aDown a s) 43 (16 * s + f) = aS a 43 (16 * s + f) := by
    show aS (aI (aI (aI a 52 s 0) 29 s (-1)) 31 s (-1)) 43 (16 * s + f) = _
    rw [aS_If (by decide), aS_If (by decide), aS_If (by decide)]
  have ep : ∀ F : AF, aPut (aDown a s) s f F = aDown (aPut a s f F) s := fun _ => rfl
  have es : ∀ X : AA, aSyncFile (aDown X s) s f = aDown (aSyncFile X s f) s := by
    intro X
    show aI (aDown (aFkS X s (aU (aFk X s) f (aFc X s f))) s) 43 (16 * s + f) ((aFc X s f).1 1) = aDown (aI (aFkS X s (aU (aFk X s) f (aFc X s f))) 43 (16 * s + f) ((aFc X s f).1 1)) s
    generalize aFkS X s (aU (aFk X s) f (aFc X s f)) = Y
    generalize (aFc X s f).1 1 = w
    show aDropReq (aWtS (aI (aI (aI (aI Y 52 s 0) 29 s (-1)) 31 s (-1)) 43 (16 * s + f) w) s []) s = aDropReq (aWtS (aI (aI (aI (aI Y 43 (16 * s + f) w) 52 s 0) 29 s (-1)) 31 s (-1)) s []) s
    rw [aI_comm (f := 31) (g := 43) (fun z => absurd z.1 (by decide)), aI_comm (f := 29) (g := 43) (fun z => absurd z.1 (by decide)), aI_comm (f := 52) (g := 43) (fun z => absurd z.1 (by decide))]
  rw [aCrashFile_e, aCrashFile_e, e43, ep, ep]
  show aSyncFile (if r.toUInt64 >>> 61 = 0 then aDown (aPut a s f (aFk a s f)) s else aDown (aPut a s f (aU (aFc a s f).1 1 (aMin ((aFc a s f).1 1) (aS a 43 (16 * s + f) + crK r ((aFc a s f).1 1 - aS a 43 (16 * s + f)))), (aFc a s f).2)) s) s f = _
  split
  · exact es _
  · exact es _
theorem crashes_down {a : AA} {s : Nat} {r : Int64} : ∀ n, (aCrashFiles (aDown a s) s r n).1 = aDown (aCrashFiles a s r n).1 s ∧ (aCrashFiles (aDown a s) s r n).2 = (aCrashFiles a s r n).2 := by
  intro n
  induction n with
  | zero => exact ⟨rfl, rfl⟩
  | succ n ih =>
    have e : ∀ b : AA, (aCrashFiles b s r (n + 1)).1 = aCrashFile (aCrashFiles b s r n).1 s n (aLcg (aCrashFiles b s r n).2) := fun _ => rfl
    refine ⟨?_, ?_⟩
    · rw [e, e, ih.1, ih.2, crash_down]
    · show aLcg (aCrashFiles (aDown a s) s r n).2 = aLcg (aCrashFiles a s r n).2
      rw [ih.2]
theorem RC_46n {c : CS} {a : AA} {v : CV} {s : Nat} {x : Int32} (h : RC c a v) (hd : aS a 52 s = 0) : RC c (aI a 46 s x) v := by
  have hF : Ck [] 0 c c := Ck_r
  have e := eI1 (a := a) (f := 46) (i := s) (x := x)
  have hfr : ∀ t, t < 7 → aS (aI a 46 s x) 52 t = 1 → cI c 6 t 7 0 = aS (aI a 46 s x) 46 t := by
    intro t ht hu
    rw [e 52 (by decide)] at hu
    rw [aS_I, if_neg (fun z => by rw [z.2, hd] at hu; exact absurd hu (by decide))]
    exact h.2.1 t ht hu
  exact ⟨KSc_k hF (by decide) e (by decide) h.1, hfr, hd_k hF (by decide) e (by decide) h.2.2.1, ld_k hF (by decide) e (by decide) h.2.2.2.1, rq_k hF (by decide) e (by decide) rfl h.2.2.2.2.1, bl_k hF (by decide) e (by decide) h.2.2.2.2.2.1, da_k hF (by decide) e (by decide) rfl h.2.2.2.2.2.2.1, lw_k hF (by decide) e (by decide) h.2.2.2.2.2.2.2.1, fun s hs => KG_fr hF (by decide) (h.2.2.2.2.2.2.2.2.1 s hs), fun s hs => KPg_fr hF (by decide) (h.2.2.2.2.2.2.2.2.2.1 s hs), fun s hs => KCh_fr hF (by decide) (h.2.2.2.2.2.2.2.2.2.2.1 s hs), fun s hs => KMc_fr hF (by decide) (h.2.2.2.2.2.2.2.2.2.2.2.1 s hs), pc_k hF (by decide) e (by decide) rfl h.2.2.2.2.2.2.2.2.2.2.2.2.1, cl_k hF (by decide) e (by decide) h.2.2.2.2.2.2.2.2.2.2.2.2.2.1, fun k hk => KDn_fr hF (by decide) (h.2.2.2.2.2.2.2.2.2.2.2.2.2.2.1 k hk), KAk_fr hF (by decide) h.2.2.2.2.2.2.2.2.2.2.2.2.2.2.2.1, KFc_fr hF (by decide) h.2.2.2.2.2.2.2.2.2.2.2.2.2.2.2.2.1, id_k hF (by decide) e (by decide) h.2.2.2.2.2.2.2.2.2.2.2.2.2.2.2.2.2.1, fun k hk => KIc_fr hF (by decide) (h.2.2.2.2.2.2.2.2.2.2.2.2.2.2.2.2.2.2.1 k hk), KLt_fr hF rfl (by decide) h.2.2.2.2.2.2.2.2.2.2.2.2.2.2.2.2.2.2.2.1, KRm_fr hF rfl (by decide) h.2.2.2.2.2.2.2.2.2.2.2.2.2.2.2.2.2.2.2.2.1, sh_k e (by decide) rfl rfl h.2.2.2.2.2.2.2.2.2.2.2.2.2.2.2.2.2.2.2.2.2.1, nw_k e (by decide) h.2.2.2.2.2.2.2.2.2.2.2.2.2.2.2.2.2.2.2.2.2.2⟩
theorem K_crashF {F : Nat} {c : CS} {a : AA} {x : Int32} {r : Int64} {U : Nat → Int32} {N : Nat × Nat} (hF : 400 ≤ F) (h : RC c a (([], U), N)) (hb : ∀ s, s < 7 → aS a 52 s = 0 ∨ aS a 52 s = 1) (hz : ∀ s, s < 7 → szOK a s) : cUpd a (([], U), N) (A_crash a x r) (k_Face_crash F c 0 x r) (k_Face_host_J c 0 x) none := by
  unfold A_crash
  obtain ⟨n, hn⟩ : ∃ n : Nat, n = 16 := ⟨16, rfl⟩
  rw [← hn]
  by_cases q1 : aInR x 0 6 = true
  rotate_left
  · have q1 := b_false q1
    rw [q1]
    exact Or.inr ⟨rfl, rfl, Or.inl (K_hostJ q1)⟩
  obtain ⟨s, hs, e⟩ := inR_6 q1
  subst e
  rw [q1, i_cl (by omega), if_neg (show ¬ (!true) = true by decide)]
  dsimp only
  have e52 : cI c 13 s 8 0 = aS a 52 s := K_r h (F := 52) (cl := 13) (f := 8) (by decide) hs
  rcases hb s hs with q | q
  · rw [if_pos q]
    refine Or.inl ⟨rfl, ?_⟩
    unfold k_Face_crash k_Face_crash_b0 k_Face_crash_b25
    rw [K_host hs]
    refine WP_b ?_
    rw [e52, q, if_pos (by decide), if_pos (Or.inl rfl)]
    exact WP_some ⟨h, rfl⟩
  · rw [if_neg (by rw [q]; decide)]
    refine Or.inl ⟨rfl, ?_⟩
    unfold k_Face_crash k_Face_crash_b0 k_Face_crash_b25 k_Server_fall k_Server_fall_b0
    rw [K_host hs]
    refine WP_b ?_
    rw [e52, q, if_neg (by decide)]
    refine WP_call (Q1 := fun c2 => RC c2 (aI (aI (aI (aI (aWtS (aCrashFiles a s r n).1 s []) 52 s 0) 71 s 0) 29 s (-1)) 31 s (-1)) (([], U), N)) ?_ (fun c2 h2 => ?_)
    · have kd := K_fallD (F := F) (r := r) (by omega) h hs (hz s hs)
      rw [← hn] at kd
      refine WP_call kd (fun c1 h1 => ?_)
      exact K_spareAll (by omega) h1 hs
    · rw [if_pos (Or.inr rfl)]
      refine WP_some ⟨?_, rfl⟩
      show RC c2 (aI (aI (aCrashFiles (aDown a s) s r n).1 46 s 0) 71 s 0) (([], U), N)
      rw [(crashes_down n).1]
      generalize (aCrashFiles a s r n).1 = B at h2
      have d52 : aS (aI (aI (aI (aI (aWtS B s []) 52 s 0) 71 s 0) 29 s (-1)) 31 s (-1)) 52 s = 0 := by
        rw [aS_If (by decide), aS_If (by decide), aS_If (by decide), aS_I, if_pos ⟨rfl, rfl⟩]
      have h3 := RC_46n (x := 0) (RC_rqd (rq := []) h2 d52) d52
      have e2 : aI (aI (aDown B s) 46 s 0) 71 s 0 = aI (aRqS (aI (aI (aI (aI (aWtS B s []) 52 s 0) 71 s 0) 29 s (-1)) 31 s (-1)) s []) 46 s 0 := by
        show aI (aI (aRqS (aI (aI (aI (aWtS B s []) 52 s 0) 29 s (-1)) 31 s (-1)) s []) 46 s 0) 71 s 0 = _
        generalize aWtS B s [] = Y
        rw [aI_comm (f := 46) (g := 71) (fun z => absurd z.1 (by decide))]
        show aI (aRqS (aI (aI (aI (aI Y 52 s 0) 29 s (-1)) 31 s (-1)) 71 s 0) s []) 46 s 0 = _
        rw [aI_comm (f := 31) (g := 71) (fun z => absurd z.1 (by decide)), aI_comm (f := 29) (g := 71) (fun z => absurd z.1 (by decide))]
      rw [e2]
      exact h3
