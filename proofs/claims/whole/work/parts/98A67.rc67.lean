/-! letters come: elections won, entries, what a leader hears; an alarm, a sync -/
theorem K_cm4 {F : Nat} {c : CS} {a : AA} {s ad : Nat} {l : AL} {H : List (Nat × Option AL)} {U : Nat → Int32} {N : Nat × Nat} (hF : 400 ≤ F) (h : RC c a (((ad, some l) :: H, U), N)) (hs : s < 7) (hU : U s = 0) (hup : aS a 52 s = 1) (hl : aLoc a) (hm : mdOK a 1) (hf : aInR (l.1 2) 0 6 = true ∨ aInR (l.1 2) 8 15 = true) (hH : H.length ≤ 4) (hk : l.1 4 = 4)
    (hX : l.1 6 = 1 ∧ l.1 5 = aS (cmA a s l) 53 s ∧ aS (cmA a s l) 73 s = 2 → ∀ X, X = aI (cmA a s l) 79 s (aS (cmA a s l) 79 s ||| (1 <<< l.1 2)) → aMaj (aS X 65 s) (aS X 79 s) = true → fM X s ∧ (¬ 300 ≤ aLast X s - aBase X s → mdOK (aTakeLead X s) 0 ∧ aS (aTakeLead X s) 73 s = 3 ∧ (aS (aTakeLead X s) 80 s = -1 ∨ 0 ≤ aS (aTakeLead X s) 80 s) ∧ fS (bt1 (aTakeLead X s) s) s ∧ EX (A_sendAll (bt1 (aTakeLead X s) s) s true) s)) : WP ((k_Server_receive F c s ad).bind fun p => k_Server_settle F p s (some ad)) (fun c' => RC c' (A_came a s l) (((ad, some l) :: H, U), N)) := by
  have eA : A_came a s l = if l.1 6 = 1 ∧ l.1 5 = aS (cmA a s l) 53 s ∧ aS (cmA a s l) 73 s = 2 then (if aMaj (aS (aI (cmA a s l) 79 s (aS (cmA a s l) 79 s ||| (1 <<< l.1 2))) 65 s) (aS (aI (cmA a s l) 79 s (aS (cmA a s l) 79 s ||| (1 <<< l.1 2))) 79 s) = true then A_lead (aI (cmA a s l) 79 s (aS (cmA a s l) 79 s ||| (1 <<< l.1 2))) s else aI (cmA a s l) 79 s (aS (cmA a s l) 79 s ||| (1 <<< l.1 2))) else cmA a s l := (if_neg (by rw [hk]; decide)).trans ((if_neg (by rw [hk]; decide)).trans ((if_neg (by rw [hk]; decide)).trans (if_pos hk)))
  rw [eA]
  generalize hb : cmA a s l = b at hX
  have e65 : aS (aI b 79 s (aS b 79 s ||| (1 <<< l.1 2))) 65 s = aS b 65 s := aS_If (by decide)
  have e79 : aS (aI b 79 s (aS b 79 s ||| (1 <<< l.1 2))) 79 s = aS b 79 s ||| (1 <<< l.1 2) := if_pos ⟨rfl, rfl⟩
  refine WP_call (Q1 := fun c' => if l.1 6 = 1 ∧ l.1 5 = aS b 53 s ∧ aS b 73 s = 2 then RC c' (aI b 79 s (aS b 79 s ||| (1 <<< l.1 2))) (((ad, some l) :: H, aU U s (U s ||| (if aMaj (aS b 65 s) (aS b 79 s ||| (1 <<< l.1 2)) then 2 else 0))), N) else RC c' b (((ad, some l) :: H, U), N)) (K_recv (by omega) h hs hup hl hm (by rw [hk]; decide) (fun c1 h1 => ?_)) (fun p hp => ?_)
  · rw [hb] at h1
    have e4 : cI c1 8 ad 4 0 = 4 := ((RC_hand h1 List.mem_cons_self).1 4 (by decide)).trans hk
    unfold k_Server_receive_b69 k_Server_receive_b204
    rw [e4, if_neg (show ¬ (4 : Int32) = 1 by decide), if_neg (show ¬ (4 : Int32) = 2 by decide), if_neg (show ¬ (4 : Int32) = 3 by decide), if_pos (show (4 : Int32) = 4 from rfl)]
    exact WP_call (K_answer4 h1 hs hk hf) (fun c2 h2 => WP_some h2)
  · by_cases q : l.1 6 = 1 ∧ l.1 5 = aS b 53 s ∧ aS b 73 s = 2
    · rw [if_pos q] at hp ⊢
      have hX := hX q _ rfl
      rw [e65, e79] at hX ⊢
      by_cases y : aMaj (aS b 65 s) (aS b 79 s ||| (1 <<< l.1 2)) = true
      · rw [if_pos y] at hp ⊢
        rw [hU] at hp
        obtain ⟨x1, x2⟩ := hX y
        refine WP_mono (K_settle2 hF hp hs (show aU U s (0 ||| 2) s = 2 from aU_U) x1 x2 (by simpa using hH)) (fun c' h' => ?_)
        rw [aU_2, aU_0 hU] at h'
        exact h'
      · rw [if_neg y] at hp ⊢
        rw [hU, show (0 : Int32) ||| 0 = 0 by decide, aU_0 hU] at hp
        exact K_settle0 hp hs hU
    · rw [if_neg q] at hp ⊢
      exact K_settle0 hp hs hU
/-- what must hold behind what a leader heard -/
def hdF (a : AA) (s : Nat) : Prop := cnF a s ∧ aS (A_count a s) 52 s = 1 ∧ EX (A_count a s) s ∧ fB (A_answerReads (A_count a s) s) s
theorem K_cm68 {F : Nat} {c : CS} {b : AA} {s ad j : Nat} {l : AL} {H : List (Nat × Option AL)} {U : Nat → Int32} {N : Nat × Nat} (hF : 400 ≤ F) (hs : s < 7) (hU : U s = 0) (hj : j < 7) (hf : l.1 2 = Int32.ofNat j) (hH : H.length ≤ 4) (h : if l.1 5 = aS b 53 s ∧ aS b 73 s = 3 ∧ aPeer b s j = true then RC c (hd2 (hd1 b s l) s l) (((ad, some l) :: H, aU U s (U s ||| 392)), N) else RC c b (((ad, some l) :: H, U), N)) (hX : l.1 5 = aS b 53 s ∧ aS b 73 s = 3 ∧ aPeer b s j = true → hdF (hd2 (hd1 b s l) s l) s) : WP (k_Server_settle F c s (some ad)) (fun c' => RC c' (if l.1 5 = aS b 53 s ∧ aS b 73 s = 3 ∧ aPeer b s j = true then A_heardOf b s l else b) (((ad, some l) :: H, U), N)) := by
  by_cases q : l.1 5 = aS b 53 s ∧ aS b 73 s = 3 ∧ aPeer b s j = true
  · rw [if_pos q] at h ⊢
    obtain ⟨x1, x2, x3, x4⟩ := hX q
    rw [A_heardOf_e]
    rw [hU] at h
    refine WP_mono (K_settle392 hF h hs (show aU U s (0 ||| 392) s = 392 from aU_U) x1 hj hf x2 x3 x4 hH) (fun c' h' => ?_)
    rw [aU_2, aU_0 hU] at h'
    exact h'
  · rw [if_neg q] at h ⊢
    exact K_settle0 h hs hU
theorem K_cm6 {F : Nat} {c : CS} {a : AA} {s ad j : Nat} {l : AL} {H : List (Nat × Option AL)} {U : Nat → Int32} {N : Nat × Nat} (hF : 400 ≤ F) (h : RC c a (((ad, some l) :: H, U), N)) (hs : s < 7) (hU : U s = 0) (hup : aS a 52 s = 1) (hl : aLoc a) (hm : mdOK a 1) (hj : j < 7) (hf : l.1 2 = Int32.ofNat j) (hH : H.length ≤ 4) (hk : l.1 4 = 6) (h88 : aS (cmA a s l) 73 s = 3 → 0 ≤ aS (cmA a s l) 88 (7 * s + j))
    (hX : l.1 5 = aS (cmA a s l) 53 s ∧ aS (cmA a s l) 73 s = 3 ∧ aPeer (cmA a s l) s j = true → hdF (hd2 (hd1 (cmA a s l) s l) s l) s) : WP ((k_Server_receive F c s ad).bind fun p => k_Server_settle F p s (some ad)) (fun c' => RC c' (A_came a s l) (((ad, some l) :: H, U), N)) := by
  have eA : A_came a s l = if l.1 5 = aS (cmA a s l) 53 s ∧ aS (cmA a s l) 73 s = 3 ∧ aPeer (cmA a s l) s j = true then A_heardOf (cmA a s l) s l else cmA a s l := by
    have e1 : A_came a s l = if l.1 5 = aS (cmA a s l) 53 s ∧ aS (cmA a s l) 73 s = 3 ∧ aPeer (cmA a s l) s (l.1 2).toNatClampNeg = true then A_heardOf (cmA a s l) s l else cmA a s l := (if_neg (by rw [hk]; decide)).trans ((if_neg (by rw [hk]; decide)).trans ((if_neg (by rw [hk]; decide)).trans ((if_neg (by rw [hk]; decide)).trans ((if_neg (by rw [hk]; decide)).trans (if_pos (Or.inl hk))))))
    rw [e1, hf, i_cl (by omega)]
  rw [eA]
  generalize hb : cmA a s l = b at h88 hX
  refine WP_call (Q1 := fun c' => if l.1 5 = aS b 53 s ∧ aS b 73 s = 3 ∧ aPeer b s j = true then RC c' (hd2 (hd1 b s l) s l) (((ad, some l) :: H, aU U s (U s ||| 392)), N) else RC c' b (((ad, some l) :: H, U), N)) (K_recv (by omega) h hs hup hl hm (by rw [hk]; decide) (fun c1 h1 => ?_)) (fun p hp => K_cm68 hF hs hU hj hf hH hp hX)
  rw [hb] at h1
  have e4 : cI c1 8 ad 4 0 = 6 := ((RC_hand h1 List.mem_cons_self).1 4 (by decide)).trans hk
  unfold k_Server_receive_b69 k_Server_receive_b204
  rw [e4, if_neg (show ¬ (6 : Int32) = 1 by decide), if_neg (show ¬ (6 : Int32) = 2 by decide), if_neg (show ¬ (6 : Int32) = 3 by decide), if_neg (show ¬ (6 : Int32) = 4 by decide), if_neg (show ¬ (6 : Int32) = 5 by decide), if_pos (show (6 : Int32) = 6 from rfl)]
  exact WP_call (K_tookAppended h1 hs hk hj hf h88) (fun c2 h2 => WP_some h2)
theorem K_cm8 {F : Nat} {c : CS} {a : AA} {s ad j : Nat} {l : AL} {H : List (Nat × Option AL)} {U : Nat → Int32} {N : Nat × Nat} (hF : 400 ≤ F) (h : RC c a (((ad, some l) :: H, U), N)) (hs : s < 7) (hU : U s = 0) (hup : aS a 52 s = 1) (hl : aLoc a) (hm : mdOK a 1) (hj : j < 7) (hf : l.1 2 = Int32.ofNat j) (hH : H.length ≤ 4) (hk : l.1 4 = 8) (u1 : aS (cmA a s l) 52 s = 1)
    (hX : l.1 5 = aS (cmA a s l) 53 s ∧ aS (cmA a s l) 73 s = 3 ∧ aPeer (cmA a s l) s j = true → hdF (hd2 (hd1 (cmA a s l) s l) s l) s) : WP ((k_Server_receive F c s ad).bind fun p => k_Server_settle F p s (some ad)) (fun c' => RC c' (A_came a s l) (((ad, some l) :: H, U), N)) := by
  have eA : A_came a s l = if l.1 5 = aS (cmA a s l) 53 s ∧ aS (cmA a s l) 73 s = 3 ∧ aPeer (cmA a s l) s j = true then A_heardOf (cmA a s l) s l else cmA a s l := by
    have e1 : A_came a s l = if l.1 5 = aS (cmA a s l) 53 s ∧ aS (cmA a s l) 73 s = 3 ∧ aPeer (cmA a s l) s (l.1 2).toNatClampNeg = true then A_heardOf (cmA a s l) s l else cmA a s l := (if_neg (by rw [hk]; decide)).trans ((if_neg (by rw [hk]; decide)).trans ((if_neg (by rw [hk]; decide)).trans ((if_neg (by rw [hk]; decide)).trans ((if_neg (by rw [hk]; decide)).trans (if_pos (Or.inr hk))))))
    rw [e1, hf, i_cl (by omega)]
  rw [eA]
  generalize hb : cmA a s l = b at u1 hX
  refine WP_call (Q1 := fun c' => if l.1 5 = aS b 53 s ∧ aS b 73 s = 3 ∧ aPeer b s j = true then RC c' (hd2 (hd1 b s l) s l) (((ad, some l) :: H, aU U s (U s ||| 392)), N) else RC c' b (((ad, some l) :: H, U), N)) (K_recv (by omega) h hs hup hl hm (by rw [hk]; decide) (fun c1 h1 => ?_)) (fun p hp => K_cm68 hF hs hU hj hf hH hp hX)
  rw [hb] at h1
  have e4 : cI c1 8 ad 4 0 = 8 := ((RC_hand h1 List.mem_cons_self).1 4 (by decide)).trans hk
  unfold k_Server_receive_b69 k_Server_receive_b204
  rw [e4, if_neg (show ¬ (8 : Int32) = 1 by decide), if_neg (show ¬ (8 : Int32) = 2 by decide), if_neg (show ¬ (8 : Int32) = 3 by decide), if_neg (show ¬ (8 : Int32) = 4 by decide), if_neg (show ¬ (8 : Int32) = 5 by decide), if_neg (show ¬ (8 : Int32) = 6 by decide), if_neg (show ¬ (8 : Int32) = 7 by decide), if_pos (show (8 : Int32) = 8 from rfl)]
  exact WP_call (K_tookStored h1 hs u1 hk hj hf) (fun c2 h2 => WP_some h2)
/-- the state behind entries that were taken, ahead of what is agreed -/
def tk75 (b : AA) (s : Nat) (l : AL) : AA := aI (tk2 b s l) 75 s (aMax (aS (tk2 b s l) 75 s) (aMin (l.1 9) (aMax (l.1 7 + Int32.ofNat (tkE b s l).length) (aBase (tk2 b s l) s))))
theorem fit_b {a : AA} {s : Nat} {l : AL} (h : (fitA a s l).2 = true) : (fitA a s l).1 = aHeed a s (l.1 2) := by
  unfold fitA at h ⊢
  dsimp only at h ⊢
  by_cases q1 : l.1 5 < aS a 53 s
  · rw [if_pos q1] at h
    exact absurd (show (false : Bool) = true from h) (by decide)
  · rw [if_neg q1] at h ⊢
    by_cases q2 : aS a 73 s = 3
    · rw [if_pos q2] at h
      exact absurd (show (false : Bool) = true from h) (by decide)
    · rw [if_neg q2] at h ⊢
      by_cases q3 : aLast (aHeed a s (l.1 2)) s < l.1 7
      · rw [if_pos q3] at h
        exact absurd (show (false : Bool) = true from h) (by decide)
      · rw [if_neg q3] at h ⊢
        by_cases q4 : aBase (aHeed a s (l.1 2)) s ≤ l.1 7 ∧ ¬ aTermAt (aHeed a s (l.1 2)) s (l.1 7) = l.1 8
        · rw [if_pos q4] at h
          exact absurd (show (false : Bool) = true from h) (by decide)
        · rw [if_neg q4]
theorem led_fit {a : AA} {s : Nat} {l : AL} (hk : l.1 4 = 5) : A_led a s l = if (fitA a s l).2 = true then (if aClash (aHeed a s (l.1 2)) s (l.1 7 + 1) (tkE (aHeed a s (l.1 2)) s l) = true then aHeed a s (l.1 2) else tk3 (aHeed a s (l.1 2)) s l) else (fitA a s l).1 := by
  unfold A_led fitA
  dsimp only
  by_cases q1 : l.1 5 < aS a 53 s
  · rw [if_pos q1, if_pos q1, if_pos hk, if_neg (show ¬ (false : Bool) = true by decide)]
  · rw [if_neg q1, if_neg q1]
    by_cases q2 : aS a 73 s = 3
    · rw [if_pos q2, if_pos q2, if_neg (show ¬ (false : Bool) = true by decide)]
    · rw [if_neg q2, if_neg q2, if_pos hk, led_heed q2, A_take_e]
      by_cases q3 : aLast (aHeed a s (l.1 2)) s < l.1 7
      · rw [if_pos q3, if_pos q3, if_neg (show ¬ (false : Bool) = true by decide)]
      · rw [if_neg q3, if_neg q3]
        by_cases q4 : aBase (aHeed a s (l.1 2)) s ≤ l.1 7 ∧ ¬ aTermAt (aHeed a s (l.1 2)) s (l.1 7) = l.1 8
        · rw [if_pos q4, if_pos q4, if_neg (show ¬ (false : Bool) = true by decide)]
        · rw [if_neg q4, if_neg q4, if_pos (show (true : Bool) = true from rfl)]
theorem K_cm5 {F : Nat} {c : CS} {a : AA} {s ad : Nat} {l : AL} {H : List (Nat × Option AL)} {U : Nat → Int32} {N : Nat × Nat} (hF : 400 ≤ F) (h : RC c a (((ad, some l) :: H, U), N)) (hs : s < 7) (hU : U s = 0) (hup : aS a 52 s = 1) (hl : aLoc a) (hm : mdOK a 1) (hf : aInR (l.1 2) 0 6 = true ∨ aInR (l.1 2) 8 15 = true) (hH : H.length ≤ 4) (hk : l.1 4 = 5) (hp0 : 0 ≤ (l.1 7).toInt) (ht : ∀ e ∈ l.2.1, ¬ e.1 = -1)
    (w : WLg (cmA a s l) s) (m1 : mdOK (cmA a s l) 0)
    (hb : (fitA (cmA a s l) s l).2 = true → ∀ b, b = aHeed (cmA a s l) s (l.1 2) → WLg b s ∧ WCh b s ∧ mdOK b 0 ∧ ((tkR b s l).2 ≠ [] → (tkR b s l).1 ≤ aLast b s → aBase b s < (tkR b s l).1) ∧ (∀ l1 e l2, (tkR b s l).2 = l1 ++ e :: l2 → FA (aAppendAll s l1 (tk1 b s l)) s) ∧ (¬ aClash b s (l.1 7 + 1) (tkE b s l) = true → fA (tk75 b s l) s)) : WP ((k_Server_receive F c s ad).bind fun p => k_Server_settle F p s (some ad)) (fun c' => ∃ l', RC c' (A_came a s l) (((ad, some l') :: H, U), N)) := by
  have eA : A_came a s l = A_led (cmA a s l) s l := (if_neg (by rw [hk]; decide)).trans ((if_neg (by rw [hk]; decide)).trans ((if_neg (by rw [hk]; decide)).trans ((if_neg (by rw [hk]; decide)).trans (if_pos (Or.inl hk)))))
  rw [eA, led_fit hk]
  generalize ha : cmA a s l = a1 at w m1 hb
  refine WP_call (Q1 := fun c' => if (fitA a1 s l).2 = true then (if aClash (aHeed a1 s (l.1 2)) s (l.1 7 + 1) (tkE (aHeed a1 s (l.1 2)) s l) = true then RC c' (aHeed a1 s (l.1 2)) (((ad, some l) :: H, U), N) else RC c' (tk75 (aHeed a1 s (l.1 2)) s l) (((ad, some (aU l.1 7 (aMax (l.1 7 + Int32.ofNat (tkE (aHeed a1 s (l.1 2)) s l).length) (aBase (tk2 (aHeed a1 s (l.1 2)) s l) s)), l.2)) :: H, aU U s (U s ||| 528)), N)) else RC c' (fitA a1 s l).1 (((ad, some l) :: H, U), N)) (K_recv (by omega) h hs hup hl hm (by rw [hk]; decide) (fun c1 h1 => ?_)) (fun p hp => ?_)
  · rw [ha] at h1
    have e4 : cI c1 8 ad 4 0 = 5 := ((RC_hand h1 List.mem_cons_self).1 4 (by decide)).trans hk
    unfold k_Server_receive_b69 k_Server_receive_b204
    rw [e4, if_neg (show ¬ (5 : Int32) = 1 by decide), if_neg (show ¬ (5 : Int32) = 2 by decide), if_neg (show ¬ (5 : Int32) = 3 by decide), if_neg (show ¬ (5 : Int32) = 4 by decide), if_pos (show (5 : Int32) = 5 from rfl)]
    refine WP_call (K_fits (by omega) h1 hs w m1 hk hf hH) (fun r hr => ?_)
    obtain ⟨r1, r2⟩ := hr
    rw [r1]
    by_cases q : (fitA a1 s l).2 = true
    · refine WP_mono (Q := fun c' => if aClash (aHeed a1 s (l.1 2)) s (l.1 7 + 1) (tkE (aHeed a1 s (l.1 2)) s l) = true then RC c' (aHeed a1 s (l.1 2)) (((ad, some l) :: H, U), N) else RC c' (tk75 (aHeed a1 s (l.1 2)) s l) (((ad, some (aU l.1 7 (aMax (l.1 7 + Int32.ofNat (tkE (aHeed a1 s (l.1 2)) s l).length) (aBase (tk2 (aHeed a1 s (l.1 2)) s l) s)), l.2)) :: H, aU U s (U s ||| 528)), N)) ?_ (fun c' h' => by rw [if_pos q]; exact h')
      rw [q]
      rw [fit_b q] at r2
      refine WP_if c0_eq (fun z => absurd z (by decide)) (fun _ => ?_)
      obtain ⟨b1, b2, b3, b4, b5, _⟩ := hb q _ rfl
      exact WP_call (K_takeE hF r2 hs b1 b2 b3 hk hp0 ht b4 b5) (fun c2 h2 => WP_some h2)
    · refine WP_mono (Q := fun c' => RC c' (fitA a1 s l).1 (((ad, some l) :: H, U), N)) ?_ (fun c' h' => by rw [if_neg q]; exact h')
      rw [show (fitA a1 s l).2 = false by simpa using q]
      exact WP_if c0_eq (fun _ => WP_some r2) (fun z => absurd rfl z)
  · by_cases q : (fitA a1 s l).2 = true
    · rw [if_pos q] at hp ⊢
      obtain ⟨_, _, _, _, _, b6⟩ := hb q _ rfl
      generalize aHeed a1 s (l.1 2) = b at hp b6
      by_cases z : aClash b s (l.1 7 + 1) (tkE b s l) = true
      · rw [if_pos z] at hp ⊢
        exact WP_mono (K_settle0 hp hs hU) (fun c' h' => ⟨l, h'⟩)
      · rw [if_neg z] at hp ⊢
        obtain ⟨a1, a2, a3, a4, a5, a6, a7, a8⟩ := b6 z
        rw [hU] at hp
        have hk' : (aU l.1 7 (aMax (l.1 7 + Int32.ofNat (tkE b s l).length) (aBase (tk2 b s l) s))) 4 = 5 := (if_neg (by decide)).trans hk
        have e2 : (aU l.1 7 (aMax (l.1 7 + Int32.ofNat (tkE b s l).length) (aBase (tk2 b s l) s))) 2 = l.1 2 := if_neg (by decide)
        have e7 : (aU l.1 7 (aMax (l.1 7 + Int32.ofNat (tkE b s l).length) (aBase (tk2 b s l) s))) 7 = aMax (l.1 7 + Int32.ofNat (tkE b s l).length) (aBase (tk2 b s l) s) := if_pos rfl
        have e10 : (aU l.1 7 (aMax (l.1 7 + Int32.ofNat (tkE b s l).length) (aBase (tk2 b s l) s))) 10 = l.1 10 := if_neg (by decide)
        refine WP_mono (K_settle528 hF hp hs (show aU U s (0 ||| 528) s = 528 from aU_U) a1 a2 a3 a4 a5 a6 a7 a8 hk' (by dsimp only; rw [e2]; exact hf) hH) (fun c' h' => ?_)
        dsimp only at h'
        rw [aU_2, aU_0 hU, e2, e7, e10] at h'
        exact ⟨_, h'⟩
    · rw [if_neg q] at hp ⊢
      exact WP_mono (K_settle0 hp hs hU) (fun c' h' => ⟨l, h'⟩)
/-- an alarm rings: at once, and what is due -/
theorem ring_e {a : AA} {s : Nat} : A_ring a s = if (aRing1 a s).2 = 4 then A_beat (aRing1 a s).1 s else if (aRing1 a s).2 = 1 then A_campaign (aRing1 a s).1 s else (aRing1 a s).1 := by
  unfold A_ring aRing1
  dsimp only
  by_cases q1 : aS a 73 s = 3
  · rw [if_pos q1, if_pos q1]
    by_cases q2 : aCommon (aS a 65 s) (fun p => aS (aI a 92 (7 * s + s) (aNow a)) 92 (7 * s + p)) 7 < aNow a - 100
    · rw [if_pos q2, if_pos q2, if_neg (show ¬ (0 : Int32) = 4 by decide), if_neg (show ¬ (0 : Int32) = 1 by decide)]
    · rw [if_neg q2, if_neg q2, if_pos rfl]
  · rw [if_neg q1, if_neg q1]
    by_cases q2 : aVoter (A_drawAlarm a s) s s = true
    · have e53 : aS (aI (aI (aI (A_drawAlarm a s) 73 s 1) 74 s (-1)) 79 s (1 <<< Int32.ofNat s)) 53 s = aS a 53 s := (aS_If (by decide)).trans ((aS_If (by decide)).trans ((aS_If (by decide)).trans (AFr_drawAlarm.1 53 (by decide) s)))
      rw [if_pos q2, if_pos q2, e53]
      dsimp only
      by_cases q3 : aMaj (aS (aAskVoters (aI (aI (aI (A_drawAlarm a s) 73 s 1) 74 s (-1)) 79 s (1 <<< Int32.ofNat s)) s 1 (aS a 53 s + 1) 7) 65 s) (aS (aAskVoters (aI (aI (aI (A_drawAlarm a s) 73 s 1) 74 s (-1)) 79 s (1 <<< Int32.ofNat s)) s 1 (aS a 53 s + 1) 7) 79 s) = true
      · rw [if_pos q3, if_pos q3, if_neg (show ¬ (1 : Int32) = 4 by decide), if_pos (show (1 : Int32) = 1 from rfl)]
      · rw [if_neg q3, if_neg q3, if_neg (show ¬ (0 : Int32) = 4 by decide), if_neg (show ¬ (0 : Int32) = 1 by decide)]
    · rw [if_neg q2, if_neg q2, if_neg (show ¬ (0 : Int32) = 4 by decide), if_neg (show ¬ (0 : Int32) = 1 by decide)]
theorem ring_2 {a : AA} {s : Nat} : (aRing1 a s).2 = 0 ∨ (aRing1 a s).2 = 1 ∨ (aRing1 a s).2 = 4 := by
  unfold aRing1
  dsimp only
  split
  · split
    · exact Or.inl rfl
    · exact Or.inr (Or.inr rfl)
  · split
    · dsimp only
      split
      · exact Or.inr (Or.inl rfl)
      · exact Or.inl rfl
    · exact Or.inl rfl
theorem K_ring {F : Nat} {c : CS} {a : AA} {s : Nat} {H : List (Nat × Option AL)} {U : Nat → Int32} {N : Nat × Nat} (hF : 400 ≤ F) (h : RC c a ((H, U), N)) (hs : s < 7) (hU : U s = 0) (hup : aS a 52 s = 1) (hl : aLoc a) (hm : mdOK a 1) (wl : WLg a s) (hH : H.length ≤ 5) (ho : ∃ p, p < 7 ∧ aIn (aOldM (aS a 65 s)) p = true) (h0 : ∀ p, p < 7 → 0 ≤ aS (aI a 92 (7 * s + s) (aNow a)) 92 (7 * s + p))
    (h1 : (aRing1 a s).2 = 1 → ∀ X, X = (aRing1 a s).1 → aS X 52 s = 1 ∧ aLoc X ∧ WLg X s ∧ mdOK X 1) (h4 : (aRing1 a s).2 = 4 → ∀ X, X = (aRing1 a s).1 → aS X 73 s = 3 ∧ mdOK X 0 ∧ (aS X 80 s = -1 ∨ 0 ≤ aS X 80 s) ∧ fS (bt1 X s) s ∧ EX (A_sendAll (bt1 X s) s true) s) : WP ((k_Server_wake F c s).bind fun p => k_Server_settle F p s none) (fun c' => RC c' (A_ring a s) ((H, U), N)) := by
  refine WP_call (K_wake (by omega) h hs hup hl hm wl hH ho h0) (fun p hp => ?_)
  rw [ring_e]
  rw [hU] at hp
  rcases ring_2 (a := a) (s := s) with q | q | q
  · rw [q, if_neg (by decide), if_neg (by decide)]
    rw [q, show (0 : Int32) ||| 0 = 0 by decide, aU_0 hU] at hp
    exact K_settle0 hp hs hU
  · obtain ⟨x1, x2, x3, x4⟩ := h1 q _ rfl
    rw [q, if_neg (by decide), if_pos rfl]
    rw [q] at hp
    refine WP_mono (K_settle1 (by omega) hp hs (show aU U s (0 ||| 1) s = 1 from aU_U) x1 x2 x3 x4 hH) (fun c' h' => ?_)
    rw [aU_2, aU_0 hU] at h'
    exact h'
  · obtain ⟨x1, x2, x3, x4, x5⟩ := h4 q _ rfl
    rw [q, if_pos rfl]
    rw [q] at hp
    refine WP_mono (K_settle4 hF hp hs (show aU U s (0 ||| 4) s = 4 from aU_U) x1 x2 x3 x4 x5 hH) (fun c' h' => ?_)
    rw [aU_2, aU_0 hU] at h'
    exact h'
theorem sync_e {a : AA} {s : Nat} : A_sync a s = if (aSync1 a s).2 = 2 then A_lead (aSync1 a s).1 s else if (aSync1 a s).2 = 8 then A_count (aSync1 a s).1 s else (aSync1 a s).1 := by
  rw [A_sync_e]
  unfold aSync1
  dsimp only
  by_cases q1 : aS (sy1 a s) 73 s = 2
  · rw [if_pos q1, if_pos q1]
    dsimp only
    by_cases q3 : aMaj (aS (aI (sy1 a s) 79 s (aS (sy1 a s) 79 s ||| (1 <<< Int32.ofNat s))) 65 s) (aS (aI (sy1 a s) 79 s (aS (sy1 a s) 79 s ||| (1 <<< Int32.ofNat s))) 79 s) = true
    · rw [if_pos q3, if_pos q3, if_pos (show (2 : Int32) = 2 from rfl)]
    · rw [if_neg q3, if_neg q3, if_neg (show ¬ (0 : Int32) = 2 by decide), if_neg (show ¬ (0 : Int32) = 8 by decide)]
  · rw [if_neg q1, if_neg q1]
    by_cases q2 : aS (sy1 a s) 73 s = 3
    · rw [if_pos q2, if_pos q2, if_neg (show ¬ (8 : Int32) = 2 by decide), if_pos (show (8 : Int32) = 8 from rfl)]
    · rw [if_neg q2, if_neg q2, if_neg (show ¬ (0 : Int32) = 2 by decide), if_neg (show ¬ (0 : Int32) = 8 by decide)]
theorem sync_2 {a : AA} {s : Nat} : (aSync1 a s).2 = 0 ∨ (aSync1 a s).2 = 2 ∨ (aSync1 a s).2 = 8 := by
  unfold aSync1
  dsimp only
  split
  · dsimp only
    split
    · exact Or.inr (Or.inl rfl)
    · exact Or.inl rfl
  · split
    · exact Or.inr (Or.inr rfl)
    · exact Or.inl rfl
theorem K_synced {F : Nat} {c : CS} {a : AA} {s : Nat} {H : List (Nat × Option AL)} {U : Nat → Int32} {N : Nat × Nat} (hF : 400 ≤ F) (h : RC c a ((H, U), N)) (hs : s < 7) (hU : U s = 0) (wf : ∀ l ∈ aWt a s, wfL l) (hH : H.length ≤ 5)
    (h2 : (aSync1 a s).2 = 2 → ∀ X, X = (aSync1 a s).1 → fM X s ∧ (¬ 300 ≤ aLast X s - aBase X s → mdOK (aTakeLead X s) 0 ∧ aS (aTakeLead X s) 73 s = 3 ∧ (aS (aTakeLead X s) 80 s = -1 ∨ 0 ≤ aS (aTakeLead X s) 80 s) ∧ fS (bt1 (aTakeLead X s) s) s ∧ EX (A_sendAll (bt1 (aTakeLead X s) s) s true) s)) (h8 : (aSync1 a s).2 = 8 → cnF (aSync1 a s).1 s) : WP ((k_Server_sync F c s).bind fun p => k_Server_settle F p s none) (fun c' => RC c' (A_sync a s) ((H, U), N)) := by
  refine WP_call (K_sync (by omega) h hs wf hH) (fun p hp => ?_)
  rw [sync_e]
  rw [hU] at hp
  rcases sync_2 (a := a) (s := s) with q | q | q
  · rw [q, if_neg (by decide), if_neg (by decide)]
    rw [q, show (0 : Int32) ||| 0 = 0 by decide, aU_0 hU] at hp
    exact K_settle0 hp hs hU
  · obtain ⟨x1, x2⟩ := h2 q _ rfl
    rw [q, if_pos rfl]
    rw [q] at hp
    refine WP_mono (K_settle2 hF hp hs (show aU U s (0 ||| 2) s = 2 from aU_U) x1 x2 hH) (fun c' h' => ?_)
    rw [aU_2, aU_0 hU] at h'
    exact h'
  · have x1 := h8 q
    rw [q, if_neg (by decide), if_pos rfl]
    rw [q] at hp
    refine WP_mono (K_settle8 hF hp hs (show aU U s (0 ||| 8) s = 8 from aU_U) x1 hH) (fun c' h' => ?_)
    rw [aU_2, aU_0 hU] at h'
    exact h'
