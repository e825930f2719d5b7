/-! letters come: votes, pieces, requests, entries -/
theorem aU_0 {U : Nat → Int32} {s : Nat} {x : Int32} (h : U s = x) : aU U s x = U := by
  rw [← h]
  exact aU_self
/-- a server ahead of a letter: a later term is taken over -/
def cmA (a : AA) (s : Nat) (l : AL) : AA := if aS a 53 s < l.1 5 ∧ ¬ l.1 4 = 1 ∧ ¬ (l.1 4 = 2 ∧ l.1 6 = 1) then A_stepDown a s (l.1 5) (-1) else a
theorem K_recv {F : Nat} {c : CS} {a : AA} {s ad : Nat} {l : AL} {H : List (Nat × Option AL)} {U : Nat → Int32} {N : Nat × Nat} {Q : CS → Prop} (hF : 33 ≤ F) (h : RC c a (((ad, some l) :: H, U), N)) (hs : s < 7) (hup : aS a 52 s = 1) (hl : aLoc a) (hm : mdOK a 1) (hk : ¬ l.1 4 = 10) (k : ∀ c1, RC c1 (cmA a s l) (((ad, some l) :: H, U), N) → WP (k_Server_receive_b69 F c1 s ad) Q) : WP (k_Server_receive F c s ad) Q := by
  have l0 := RC_hand h List.mem_cons_self
  have e4 : cI c 8 ad 4 0 = l.1 4 := l0.1 4 (by decide)
  have e5 : cI c 8 ad 5 0 = l.1 5 := l0.1 5 (by decide)
  have tail : ∀ s0 : Int32, (s0 = 1 ∧ (l.1 4 = 1 ∨ (l.1 4 = 2 ∧ l.1 6 = 1))) ∨ (s0 = 0 ∧ ¬ l.1 4 = 1 ∧ ¬ (l.1 4 = 2 ∧ l.1 6 = 1)) → WP (k_Server_receive_b44 F c s0 s ad) Q := by
    intro s0 hc
    unfold k_Server_receive_b44
    rw [e5, K_r h (F := 53) (cl := 13) (f := 10) (by decide) hs]
    refine WP_if c2_le (fun z => ?_) (fun z => ?_)
    · refine k c ?_
      unfold cmA
      rw [if_neg (fun y => Int32.not_le.mpr y.1 z)]
      exact h
    · refine WP_if c0_ne (fun y => ?_) (fun y => ?_)
      · refine k c ?_
        have hc := hc.resolve_right (fun w => y w.1)
        unfold cmA
        rw [if_neg (fun w => hc.2.elim (fun q => w.2.1 q) (fun q => w.2.2 q))]
        exact h
      · have hc := hc.resolve_left (fun w => y (by rw [w.1]; decide))
        refine WP_call (K_stepDown hF h hs hup hl hm) (fun c1 h1 => k c1 ?_)
        unfold cmA
        rw [if_pos ⟨Int32.not_le.mp z, hc.2.1, hc.2.2⟩]
        exact h1
  unfold k_Server_receive k_Server_receive_b0 k_Server_receive_b39 k_Server_receive_b43
  rw [e4]
  refine WP_if c2_ne (fun _ => ?_) (fun z => absurd hk z)
  refine WP_if c2_eq (fun z => tail 1 (Or.inl ⟨rfl, Or.inl z⟩)) (fun z => ?_)
  refine WP_if c2_ne (fun y => tail 0 (Or.inr ⟨rfl, z, fun w => y w.1⟩)) (fun y => ?_)
  have y : l.1 4 = 2 := Classical.not_not.mp y
  have e6 : cI c 8 ad 6 0 = l.1 6 := LR_f l0 y (by rw [lF2]; decide)
  rw [e6]
  exact WP_if c2_ne (fun w => tail 0 (Or.inr ⟨rfl, z, fun q => w q.2⟩)) (fun w => tail 1 (Or.inl ⟨rfl, Or.inr ⟨y, Classical.not_not.mp w⟩⟩))
/-- behind a campaign nothing is due -/
theorem K_settle1 {F : Nat} {c : CS} {a : AA} {s : Nat} {o : Option Nat} {H : List (Nat × Option AL)} {U : Nat → Int32} {N : Nat × Nat} (hF : 130 ≤ F) (h : RC c a ((H, U), N)) (hs : s < 7) (hU : U s = 1) (hup : aS a 52 s = 1) (hl : aLoc a) (w : WLg a s) (hm : mdOK a 1) (hH : H.length ≤ 5) : WP (k_Server_settle F c s o) (fun c' => RC c' (A_campaign a s) ((H, aU U s 0), N)) := by
  unfold k_Server_settle k_Server_settle_b0
  refine due_do (b := 1) (v := 0) h hs hU (by decide) (by decide) (fun p z h => WP_if c0_eq (fun y => absurd y z) (fun _ => ?_))
  refine WP_call (K_campaign hF h hs hup hl w hm hH) (fun c1 h => ?_)
  have hU : aU U s 0 s = 0 := aU_U
  unfold k_Server_settle_b12
  refine due_no (b := 2) h hs hU (by decide) (by decide) (fun p z h => WP_if c0_eq (fun _ => ?_) (fun y => absurd z y))
  unfold k_Server_settle_b24
  refine due_no (b := 4) h hs hU (by decide) (by decide) (fun p z h => WP_if c0_eq (fun _ => ?_) (fun y => absurd z y))
  unfold k_Server_settle_b45
  refine due_no (b := 8) h hs hU (by decide) (by decide) (fun p z h => WP_if c0_eq (fun _ => ?_) (fun y => absurd z y))
  unfold k_Server_settle_b58
  refine due_no (b := 16) h hs hU (by decide) (by decide) (fun p z h => WP_if c0_eq (fun _ => ?_) (fun y => absurd z y))
  unfold k_Server_settle_b79
  refine due_no (b := 32) h hs hU (by decide) (by decide) (fun p z h => WP_if c0_eq (fun _ => ?_) (fun y => absurd z y))
  unfold k_Server_settle_b92
  refine due_no (b := 64) h hs hU (by decide) (by decide) (fun p z h => WP_if c0_eq (fun _ => ?_) (fun y => absurd z y))
  unfold k_Server_settle_b106
  refine due_no (b := 128) h hs hU (by decide) (by decide) (fun p z h => WP_if c0_eq (fun _ => ?_) (fun y => absurd z y))
  unfold k_Server_settle_b120
  refine due_no (b := 256) h hs hU (by decide) (by decide) (fun p z h => WP_if c0_eq (fun _ => ?_) (fun y => absurd z y))
  unfold k_Server_settle_b142
  refine due_no (b := 512) h hs hU (by decide) (by decide) (fun p z h => WP_if c0_eq (fun _ => ?_) (fun y => absurd z y))
  exact WP_some h
theorem K_cm1 {F : Nat} {c : CS} {a : AA} {s ad : Nat} {l : AL} {H : List (Nat × Option AL)} {U : Nat → Int32} {N : Nat × Nat} (hF : 400 ≤ F) (h : RC c a (((ad, some l) :: H, U), N)) (hs : s < 7) (hU : U s = 0) (hup : aS a 52 s = 1) (hl : aLoc a) (hm : mdOK a 1) (hf : aInR (l.1 2) 0 6 = true ∨ aInR (l.1 2) 8 15 = true) (hH : H.length ≤ 4) (hk : l.1 4 = 1)
    (w : WLg (cmA a s l) s) (h78 : aS (cmA a s l) 78 s = -2000000000 ∨ 0 ≤ aS (cmA a s l) 78 s) : WP ((k_Server_receive F c s ad).bind fun p => k_Server_settle F p s (some ad)) (fun c' => RC c' (A_came a s l) (((ad, some l) :: H, U), N)) := by
  have eA : A_came a s l = A_preask (cmA a s l) s l := if_pos hk
  rw [eA]
  refine WP_call (Q1 := fun p => RC p (A_preask (cmA a s l) s l) (((ad, some l) :: H, U), N)) (K_recv (by omega) h hs hup hl hm (by rw [hk]; decide) (fun c1 h1 => ?_)) (fun p hp => K_settle0 hp hs hU)
  have e4 : cI c1 8 ad 4 0 = 1 := ((RC_hand h1 List.mem_cons_self).1 4 (by decide)).trans hk
  unfold k_Server_receive_b69 k_Server_receive_b204
  rw [e4, if_pos (show (1 : Int32) = 1 from rfl)]
  exact WP_call (K_preask (by omega) h1 hs w hk hf h78 hH) (fun c2 h2 => WP_some h2)
theorem K_cm2 {F : Nat} {c : CS} {a : AA} {s ad : Nat} {l : AL} {H : List (Nat × Option AL)} {U : Nat → Int32} {N : Nat × Nat} (hF : 400 ≤ F) (h : RC c a (((ad, some l) :: H, U), N)) (hs : s < 7) (hU : U s = 0) (hup : aS a 52 s = 1) (hl : aLoc a) (hm : mdOK a 1) (hf : aInR (l.1 2) 0 6 = true ∨ aInR (l.1 2) 8 15 = true) (hH : H.length ≤ 4) (hk : l.1 4 = 2)
    (u1 : aS (cmA a s l) 52 s = 1) (l1 : aLoc (cmA a s l)) (w : WLg (cmA a s l) s) (m1 : mdOK (cmA a s l) 1) : WP ((k_Server_receive F c s ad).bind fun p => k_Server_settle F p s (some ad)) (fun c' => RC c' (A_came a s l) (((ad, some l) :: H, U), N)) := by
  have eA : A_came a s l = if l.1 6 = 1 ∧ l.1 5 = aS (cmA a s l) 53 s + 1 ∧ aS (cmA a s l) 73 s = 1 then (if aMaj (aS (cmA a s l) 65 s) (aS (cmA a s l) 79 s ||| (1 <<< l.1 2)) = true then A_campaign (aI (cmA a s l) 79 s (aS (cmA a s l) 79 s ||| (1 <<< l.1 2))) s else aI (cmA a s l) 79 s (aS (cmA a s l) 79 s ||| (1 <<< l.1 2))) else cmA a s l := by
    have e1 : A_came a s l = if l.1 6 = 1 ∧ l.1 5 = aS (cmA a s l) 53 s + 1 ∧ aS (cmA a s l) 73 s = 1 then (if aMaj (aS (aI (cmA a s l) 79 s (aS (cmA a s l) 79 s ||| (1 <<< l.1 2))) 65 s) (aS (aI (cmA a s l) 79 s (aS (cmA a s l) 79 s ||| (1 <<< l.1 2))) 79 s) = true then A_campaign (aI (cmA a s l) 79 s (aS (cmA a s l) 79 s ||| (1 <<< l.1 2))) s else aI (cmA a s l) 79 s (aS (cmA a s l) 79 s ||| (1 <<< l.1 2))) else cmA a s l := (if_neg (by rw [hk]; decide)).trans (if_pos hk)
    rw [e1, show aS (aI (cmA a s l) 79 s (aS (cmA a s l) 79 s ||| (1 <<< l.1 2))) 65 s = aS (cmA a s l) 65 s from aS_If (by decide), show aS (aI (cmA a s l) 79 s (aS (cmA a s l) 79 s ||| (1 <<< l.1 2))) 79 s = aS (cmA a s l) 79 s ||| (1 <<< l.1 2) from if_pos ⟨rfl, rfl⟩]
  rw [eA]
  generalize hb : cmA a s l = b at u1 l1 w m1
  have fr : AFr [79] [] b (aI b 79 s (aS b 79 s ||| (1 <<< l.1 2))) := AFr_I
  refine WP_call (Q1 := fun c' => if l.1 6 = 1 ∧ l.1 5 = aS b 53 s + 1 ∧ aS b 73 s = 1 then RC c' (aI b 79 s (aS b 79 s ||| (1 <<< l.1 2))) (((ad, some l) :: H, aU U s (U s ||| (if aMaj (aS b 65 s) (aS b 79 s ||| (1 <<< l.1 2)) then 1 else 0))), N) else RC c' b (((ad, some l) :: H, U), N)) (K_recv (by omega) h hs hup hl hm (by rw [hk]; decide) (fun c1 h1 => ?_)) (fun p hp => ?_)
  · rw [hb] at h1
    have e4 : cI c1 8 ad 4 0 = 2 := ((RC_hand h1 List.mem_cons_self).1 4 (by decide)).trans hk
    unfold k_Server_receive_b69 k_Server_receive_b204
    rw [e4, if_neg (show ¬ (2 : Int32) = 1 by decide), if_pos (show (2 : Int32) = 2 from rfl)]
    exact WP_call (K_preanswer h1 hs hk hf) (fun c2 h2 => WP_some h2)
  · by_cases q : l.1 6 = 1 ∧ l.1 5 = aS b 53 s + 1 ∧ aS b 73 s = 1
    · rw [if_pos q] at hp ⊢
      by_cases y : aMaj (aS b 65 s) (aS b 79 s ||| (1 <<< l.1 2)) = true
      · rw [if_pos y] at hp ⊢
        rw [hU] at hp
        refine WP_mono (K_settle1 (by omega) hp hs (show aU U s (0 ||| 1) s = 1 from aU_U) ((fr.1 52 (by decide) s).trans u1) (aLoc_fr fr (by decide) (by decide) l1) (WLg_fr fr (by decide) (by decide) w) (mdOK_s m1 (fr.1 2 (by decide) 0)) (by simpa using hH)) (fun c' h' => ?_)
        rw [aU_2, aU_0 hU] at h'
        exact h'
      · rw [if_neg y] at hp ⊢
        rw [hU, show (0 : Int32) ||| 0 = 0 by decide, aU_0 hU] at hp
        exact K_settle0 hp hs hU
    · rw [if_neg q] at hp ⊢
      exact K_settle0 hp hs hU
theorem K_cm3 {F : Nat} {c : CS} {a : AA} {s ad : Nat} {l : AL} {H : List (Nat × Option AL)} {U : Nat → Int32} {N : Nat × Nat} (hF : 400 ≤ F) (h : RC c a (((ad, some l) :: H, U), N)) (hs : s < 7) (hU : U s = 0) (hup : aS a 52 s = 1) (hl : aLoc a) (hm : mdOK a 1) (hf : aInR (l.1 2) 0 6 = true ∨ aInR (l.1 2) 8 15 = true) (hH : H.length ≤ 4) (hk : l.1 4 = 3)
    (u1 : aS (cmA a s l) 52 s = 1) (l1 : aLoc (cmA a s l)) (w : WLg (cmA a s l) s) (m1 : mdOK (cmA a s l) 1) (h54 : aS (cmA a s l) 54 s = -1 ∨ 0 ≤ aS (cmA a s l) 54 s) (hr : ¬ aS (cmA a s l) 73 s = 3 ∨ aS (cmA a s l) 54 s = Int32.ofNat s ∧ ¬ l.1 2 = Int32.ofNat s) : WP ((k_Server_receive F c s ad).bind fun p => k_Server_settle F p s (some ad)) (fun c' => RC c' (A_came a s l) (((ad, some l) :: H, U), N)) := by
  have eA : A_came a s l = A_ask (cmA a s l) s l := (if_neg (by rw [hk]; decide)).trans ((if_neg (by rw [hk]; decide)).trans (if_pos hk))
  rw [eA]
  refine WP_call (Q1 := fun p => RC p (A_ask (cmA a s l) s l) (((ad, some l) :: H, U), N)) (K_recv (by omega) h hs hup hl hm (by rw [hk]; decide) (fun c1 h1 => ?_)) (fun p hp => K_settle0 hp hs hU)
  have e4 : cI c1 8 ad 4 0 = 3 := ((RC_hand h1 List.mem_cons_self).1 4 (by decide)).trans hk
  unfold k_Server_receive_b69 k_Server_receive_b204
  rw [e4, if_neg (show ¬ (3 : Int32) = 1 by decide), if_neg (show ¬ (3 : Int32) = 2 by decide), if_pos (show (3 : Int32) = 3 from rfl)]
  exact WP_call (K_ask3 (by omega) h1 hs u1 l1 m1 w hk hf h54 hr hH) (fun c2 h2 => WP_some h2)
theorem K_cm7 {F : Nat} {c : CS} {a : AA} {s ad : Nat} {l : AL} {H : List (Nat × Option AL)} {U : Nat → Int32} {N : Nat × Nat} (hF : 400 ≤ F) (h : RC c a (((ad, some l) :: H, U), N)) (hs : s < 7) (hU : U s = 0) (hup : aS a 52 s = 1) (hl : aLoc a) (hm : mdOK a 1) (hf : aInR (l.1 2) 0 6 = true ∨ aInR (l.1 2) 8 15 = true) (hH : H.length ≤ 4) (hk : l.1 4 = 7)
    (w : WLg (cmA a s l) s) (wc : WCh (cmA a s l) s) (mk : WMk (cmA a s l) s) (m1 : mdOK (cmA a s l) 0) (m2 : mdOK (aHeed (cmA a s l) s (l.1 2)) 0) (hw : wfMc l.2.2.2) (h12 : l.1 12 = Int32.ofNat (aEnc l.2.2.2).length) (hn2 : (l.1 7).toInt < 1073741824) (ht : ¬ l.1 8 = -1) (hpm : aS (cmA a s l) 69 s = l.1 7 → aPm (cmA a s l) s = l.2.2.2) : WP ((k_Server_receive F c s ad).bind fun p => k_Server_settle F p s (some ad)) (fun c' => RC c' (A_came a s l) (((ad, some l) :: H, U), N)) := by
  have eA : A_came a s l = A_led (cmA a s l) s l := (if_neg (by rw [hk]; decide)).trans ((if_neg (by rw [hk]; decide)).trans ((if_neg (by rw [hk]; decide)).trans ((if_neg (by rw [hk]; decide)).trans (if_pos (Or.inr hk)))))
  rw [eA]
  refine WP_call (Q1 := fun p => RC p (A_led (cmA a s l) s l) (((ad, some l) :: H, U), N)) (K_recv (by omega) h hs hup hl hm (by rw [hk]; decide) (fun c1 h1 => ?_)) (fun p hp => K_settle0 hp hs hU)
  have e4 : cI c1 8 ad 4 0 = 7 := ((RC_hand h1 List.mem_cons_self).1 4 (by decide)).trans hk
  unfold k_Server_receive_b69 k_Server_receive_b204
  rw [e4, if_neg (show ¬ (7 : Int32) = 1 by decide), if_neg (show ¬ (7 : Int32) = 2 by decide), if_neg (show ¬ (7 : Int32) = 3 by decide), if_neg (show ¬ (7 : Int32) = 4 by decide), if_neg (show ¬ (7 : Int32) = 5 by decide), if_neg (show ¬ (7 : Int32) = 6 by decide), if_pos (show (7 : Int32) = 7 from rfl)]
  exact WP_call (K_takePiece hF h1 hs w wc mk m1 m2 hk hw h12 hn2 ht hpm hf hH) (fun c2 h2 => WP_some h2)
theorem K_cm9 {F : Nat} {c : CS} {a : AA} {s ad : Nat} {l : AL} {H : List (Nat × Option AL)} {U : Nat → Int32} {N : Nat × Nat} (hF : 400 ≤ F) (h : RC c a (((ad, some l) :: H, U), N)) (hs : s < 7) (hU : U s = 0) (hup : aS a 52 s = 1) (hl : aLoc a) (hm : mdOK a 1) (hH : H.length ≤ 4) (hk : l.1 4 = 9)
    (u1 : aS (cmA a s l) 52 s = 1) (l1 : aLoc (cmA a s l)) (w : WLg (cmA a s l) s) (m1 : mdOK (cmA a s l) 1) (hr : aS (cmA a s l) 73 s = 0 ∨ aS (cmA a s l) 73 s = 1 ∨ aS (cmA a s l) 73 s = 2 ∨ aS (cmA a s l) 73 s = 3) : WP ((k_Server_receive F c s ad).bind fun p => k_Server_settle F p s (some ad)) (fun c' => RC c' (A_came a s l) (((ad, some l) :: H, U), N)) := by
  have eA : A_came a s l = if l.1 5 = aS (cmA a s l) 53 s ∧ aS (cmA a s l) 73 s < 2 ∧ aVoter (cmA a s l) s s = true then A_campaign (cmA a s l) s else cmA a s l := (if_neg (by rw [hk]; decide)).trans ((if_neg (by rw [hk]; decide)).trans ((if_neg (by rw [hk]; decide)).trans ((if_neg (by rw [hk]; decide)).trans ((if_neg (by rw [hk]; decide)).trans (if_neg (by rw [hk]; decide))))))
  rw [eA]
  generalize hb : cmA a s l = b at u1 l1 w m1 hr
  refine WP_call (Q1 := fun c' => RC c' b (((ad, some l) :: H, aU U s (U s ||| (if l.1 5 = aS b 53 s ∧ aS b 73 s < 2 ∧ aVoter b s s then 1 else 0))), N)) (K_recv (by omega) h hs hup hl hm (by rw [hk]; decide) (fun c1 h1 => ?_)) (fun p hp => ?_)
  · rw [hb] at h1
    have e4 : cI c1 8 ad 4 0 = 9 := ((RC_hand h1 List.mem_cons_self).1 4 (by decide)).trans hk
    unfold k_Server_receive_b69 k_Server_receive_b204
    rw [e4, if_neg (show ¬ (9 : Int32) = 1 by decide), if_neg (show ¬ (9 : Int32) = 2 by decide), if_neg (show ¬ (9 : Int32) = 3 by decide), if_neg (show ¬ (9 : Int32) = 4 by decide), if_neg (show ¬ (9 : Int32) = 5 by decide), if_neg (show ¬ (9 : Int32) = 6 by decide), if_neg (show ¬ (9 : Int32) = 7 by decide), if_neg (show ¬ (9 : Int32) = 8 by decide), if_pos (show (9 : Int32) = 9 from rfl)]
    exact WP_call (K_go h1 hs hr) (fun c2 h2 => WP_some h2)
  · by_cases q : l.1 5 = aS b 53 s ∧ aS b 73 s < 2 ∧ aVoter b s s = true
    · rw [if_pos q] at hp ⊢
      rw [hU] at hp
      refine WP_mono (K_settle1 (by omega) hp hs (show aU U s (0 ||| 1) s = 1 from aU_U) u1 l1 w m1 (by simpa using hH)) (fun c' h' => ?_)
      rw [aU_2, aU_0 hU] at h'
      exact h'
    · rw [if_neg q] at hp ⊢
      rw [hU, show (0 : Int32) ||| 0 = 0 by decide, aU_0 hU] at hp
      exact K_settle0 hp hs hU
theorem hold_S {a : AA} {s f i : Nat} {l : AL} {x y : Int32} (h : f ≠ 151) : aS (aHold a s l x y) f i = aS a f i := hq_S h
theorem K_cm10 {F : Nat} {c : CS} {a : AA} {s ad : Nat} {l : AL} {H : List (Nat × Option AL)} {U : Nat → Int32} {N : Nat × Nat} (hF : 400 ≤ F) (h : RC c a (((ad, some l) :: H, U), N)) (hs : s < 7) (hU : U s = 0) (hu : aS a 52 s = 1) (w : WLg a s) (wc : WCh a s) (hm : mdOK a 0) (hk : l.1 4 = 10) (hf : aInR (l.1 2) 0 6 = true ∨ aInR (l.1 2) 8 15 = true) (hH : H.length ≤ 4) (hmx : (aS a 151 s).toInt < 2147483000) (h80 : aS a 80 s = -1 ∨ 0 ≤ aS a 80 s) (hp : ¬ 200 ≤ aLast a s - aBase a s → pApp a s) (h12 : 0 ≤ (l.1 12).toInt ∧ (l.1 12).toInt ≤ 256)
    (hX : aAskN a s l → WLg (A_append a s (aAskE a s l)) s ∧ WLd (A_append a s (aAskE a s l)) s) : WP ((k_Server_receive F c s ad).bind fun p => k_Server_settle F p s (some ad)) (fun c' => RC c' (A_asked a s l) (((ad, some l) :: H, U), N)) := by
  have e4 : cI c 8 ad 4 0 = 10 := ((RC_hand h List.mem_cons_self).1 4 (by decide)).trans hk
  have h0 : WP (k_Server_receive F c s ad) (fun c' => RC c' (aAsk0 a s l) (((ad, some l) :: H, if aAskN a s l then aU U s (U s ||| 64) else U), N)) := by
    unfold k_Server_receive k_Server_receive_b0
    rw [e4]
    refine WP_if c2_ne (fun z => absurd rfl z) (fun _ => ?_)
    exact WP_call (K_takeRequest hF h hs hu w wc hm hk hf hH hmx h80 hp h12) (fun c1 h1 => WP_some h1)
  rw [ask_e]
  refine WP_call h0 (fun p hp => ?_)
  by_cases q : aAskN a s l
  · rw [if_pos q] at hp ⊢
    rw [hU] at hp
    obtain ⟨x1, x2⟩ := hX q
    have eX : aAsk0 a s l = aHold (A_append a s (aAskE a s l)) s l (aLast (A_append a s (aAskE a s l)) s) (-1) := by
      unfold aAsk0
      rw [if_neg (show ¬ (¬ aS a 73 s = 3 ∨ 0 ≤ aS a 80 s) from fun k => k.elim (fun k => k q.1) q.2.1), if_neg q.2.2.1, if_neg q.2.2.2]
    rw [eX] at hp ⊢
    have fr : AFr [43, 56, 64, 65, 2, 31, 32, 71] [2, 6, 8] a (A_append a s (aAskE a s l)) := AFr_app
    have y52 : aS (A_append a s (aAskE a s l)) 52 s = 1 := (fr.1 52 (by decide) s).trans hu
    have y73 : aS (A_append a s (aAskE a s l)) 73 s = 3 := (fr.1 73 (by decide) s).trans q.1
    generalize A_append a s (aAskE a s l) = b at hp x1 x2 y52 y73
    have w1 : WLg (aHold b s l (aLast b s) (-1)) s := x1
    have w2 : WLd (aHold b s l (aLast b s) (-1)) s := x2
    refine WP_mono (K_settle64 (by omega) hp hs (show aU U s (0 ||| 64) s = 64 from aU_U) ((hold_S (by decide)).trans y52) ((hold_S (by decide)).trans y73) w1 w2 (by simpa using hH)) (fun c' h' => ?_)
    rw [aU_2, aU_0 hU] at h'
    exact h'
  · rw [if_neg q] at hp ⊢
    exact K_settle0 hp hs hU
