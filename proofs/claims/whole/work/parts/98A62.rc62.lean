/-! a piece comes; a request comes -/
theorem K_takePiece {F : Nat} {c : CS} {a : AA} {s ad : Nat} {l : AL} {H : List (Nat × Option AL)} {U : Nat → Int32} {N : Nat × Nat} (hF : 400 ≤ F) (h : RC c a (((ad, some l) :: H, U), N)) (hs : s < 7) (w : WLg a s) (wc : WCh a s) (mk : WMk a s) (hm : mdOK a 0) (hm2 : mdOK (aHeed a s (l.1 2)) 0) (hk : l.1 4 = 7) (hw : wfMc l.2.2.2) (h12 : l.1 12 = Int32.ofNat (aEnc l.2.2.2).length) (hn2 : (l.1 7).toInt < 1073741824) (ht : ¬ l.1 8 = -1) (hpm : aS a 69 s = l.1 7 → aPm a s = l.2.2.2) (hf : aInR (l.1 2) 0 6 = true ∨ aInR (l.1 2) 8 15 = true) (hH : H.length ≤ 4) : WP (k_Server_takePiece F c s ad) (fun c' => RC c' (A_led a s l) (((ad, some l) :: H, U), N)) := by
  have l0 := RC_hand h List.mem_cons_self
  have e5 : cI c 8 ad 5 0 = l.1 5 := l0.1 5 (by decide)
  have e2 : cI c 8 ad 2 0 = l.1 2 := l0.1 2 (by decide)
  have e7 : cI c 8 ad 7 0 = l.1 7 := LR_f l0 hk (by rw [lF7]; decide)
  have n75 : ¬ l.1 4 = 5 := by rw [hk]; decide
  obtain ⟨m1, m2, m3, m4⟩ := id mk
  rw [Int32.le_iff_toInt_le] at m1 m2
  unfold k_Server_takePiece k_Server_takePiece_b0 A_led
  dsimp only
  rw [e5, e2, e7, K_r h (F := 53) (cl := 13) (f := 10) (by decide) hs, if_neg n75, if_neg n75]
  refine WP_if c2_ge (fun z => ?_) (fun z => ?_)
  · rw [if_neg (show ¬ l.1 5 < aS a 53 s from Int32.not_lt.mpr z)]
    refine WP_call (K_heeds h hs hm) (fun p hp => ?_)
    obtain ⟨p1, p2⟩ := hp
    rw [p1]
    by_cases r : aS a 73 s = 3
    · rw [if_pos r] at p2 ⊢
      rw [decide_eq_true r]
      exact WP_if c0_ne (fun y => absurd (show aB (!true) = 0 from rfl) y) (fun _ => WP_some p2)
    · rw [if_neg r] at p2 ⊢
      rw [decide_eq_false r, led_heed r]
      refine WP_if c0_ne (fun _ => ?_) (fun y => absurd (show ¬ aB (!false) = 0 by decide) y)
      have fr := @AFr_heed a s (l.1 2)
      have w' : WLg (aHeed a s (l.1 2)) s := WLg_fr fr (by decide) (by decide) w
      have x55 : aBase (aHeed a s (l.1 2)) s = aBase a s := fr.1 55 (by decide) s
      have x56 : aLast (aHeed a s (l.1 2)) s = aLast a s := fr.1 56 (by decide) s
      have wc' : WCh (aHeed a s (l.1 2)) s := WCh_c wc (congrFun (fr.2.2.2.2.2.2.2.2.2.1 (by decide)) s) x56 x55 (fun g _ => congrFun (congrFun (fr.2.2.2.2.2.2.2.1 (by decide)) s) g)
      have x69 : aS (aHeed a s (l.1 2)) 69 s = l.1 7 → aPm (aHeed a s (l.1 2)) s = l.2.2.2 := by
        intro z2
        rw [fr.1 69 (by decide)] at z2
        rw [congrFun (fr.2.2.2.2.2.2.1 (by decide)) s]
        exact hpm z2
      have x75 : aS (aHeed a s (l.1 2)) 75 s = aS a 75 s := fr.1 75 (by decide) s
      generalize aHeed a s (l.1 2) = b at p2 hm2 w' x55 wc' x69 x75
      have l1 := RC_hand p2 List.mem_cons_self
      have f2 : cI p.2 8 ad 2 0 = l.1 2 := l1.1 2 (by decide)
      have f10 : cI p.2 8 ad 10 0 = l.1 10 := LR_f l1 hk (by rw [lF7]; decide)
      have f12 : cI p.2 8 ad 12 0 = l.1 12 := LR_f l1 hk (by rw [lF7]; decide)
      have f13 : cI p.2 8 ad 13 0 = l.1 13 := LR_f l1 hk (by rw [lF7]; decide)
      rw [K_r p2 (F := 75) (cl := 9) (f := 9) (by decide) hs, f2, f10, f12, f13]
      refine WP_if c2_gt (fun y => ?_) (fun y => ?_)
      · have y : aS b 75 s < l.1 7 := y
        rw [asB_e (Int32.not_le.mpr y)]
        have hb : (aBase b s).toInt < (l.1 7).toInt := by
          rw [Int32.lt_iff_toInt_lt, x75] at y
          rw [x55]
          omega
        refine WP_if c0_ne (fun x => ?_) (fun x => ?_)
        · rw [if_neg x]
          exact K_piece hF p2 hs w' wc' hm2 hk hw h12 hb hn2 ht x69 hf hH
        · have x : l.1 13 = 0 := Classical.not_not.mp x
          rw [if_pos x]
          refine WP_b (WP_b ?_)
          have P : PX 13 s [16, 17, 18] p.2 (csI (csI p.2 13 s 16 0 (l.1 7)) 13 s 17 0 0) := PX_t (PX_I (by decide)) (PX_I (by decide))
          have h2 := RC_pc (x := l.1 7) (y := 0) (M := l.2.2.2) p2 P.1 (by rw [P.2.1]; exact Nat.le_refl _) (KRm_eq P.2.2.1 P.2.2.2 P.2.1 p2.2.2.2.2.2.2.2.2.2.2.2.2.2.2.2.2.2.2.2.2.1) ((csI_f (by decide)).trans csI_e) (Or.inr ⟨0, rfl, csI_e, Nat.zero_le _, Nat.zero_le _, fun i hi => by omega⟩)
          have fr2 : AFr [69, 70] [5] b (aPmS (aI (aI b 69 s (l.1 7)) 70 s 0) s l.2.2.2) := AFr_w (AFr_t (AFr_t AFr_I AFr_I) AFr_pm) (by decide) (by decide)
          have z55 : aBase (aPmS (aI (aI b 69 s (l.1 7)) 70 s 0) s l.2.2.2) s = aBase b s := fr2.1 55 (by decide) s
          have z56 : aLast (aPmS (aI (aI b 69 s (l.1 7)) 70 s 0) s l.2.2.2) s = aLast b s := fr2.1 56 (by decide) s
          have zp : aPm (aPmS (aI (aI b 69 s (l.1 7)) 70 s 0) s l.2.2.2) s = l.2.2.2 := if_pos rfl
          exact K_piece hF h2 hs (WLg_fr fr2 (by decide) (by decide) w') (WCh_c wc' rfl z56 z55 (fun _ _ => rfl)) (mdOK_s hm2 (fr2.1 2 (by decide) 0)) hk hw h12 (by rw [z55]; exact hb) hn2 ht (fun _ => zp) hf hH
      · have y : ¬ aS b 75 s < l.1 7 := y
        have eA : A_assemble b s l = aStored b s (l.1 2) (l.1 7) (l.1 12) (l.1 10) := by
          unfold A_assemble
          dsimp only
          rw [if_pos (Int32.not_lt.mp y)]
        rw [eA]
        exact WP_call (K_stored (by omega) p2 hs hf (by simpa using hH)) (fun c2 h2 => WP_some h2)
  · rw [if_pos (show l.1 5 < aS a 53 s from Int32.not_le.mp z)]
    exact WP_call (K_stored (by omega) h hs hf (by simpa using hH)) (fun c2 h2 => WP_some h2)
/-- what a request makes of a server ahead of all that is due -/
def aAskQ (l : AL) : AQ := fun j => if j = 1 then l.1 2 else if j = 2 then l.1 5 else 0
def aAskE (a : AA) (s : Nat) (l : AL) : AE := (aS a 53 s, 2, l.1 12, l.1 14, l.1 15, l.1 16)
abbrev aAskN (a : AA) (s : Nat) (l : AL) : Prop := aS a 73 s = 3 ∧ ¬ 0 ≤ aS a 80 s ∧ ¬ l.1 6 = 2 ∧ ¬ 200 ≤ aLast a s - aBase a s
def aAsk0 (a : AA) (s : Nat) (l : AL) : AA :=
  if ¬ aS a 73 s = 3 ∨ 0 ≤ aS a 80 s then aReply a s (aAskQ l) 1 (if aS a 73 s = 3 then aS a 80 s else aS a 74 s) []
  else if l.1 6 = 2 then aHold a s l (if aTermAt a s (aS a 75 s) = aS a 53 s then aS a 75 s else aS a 82 s) (aRound a s + 1)
  else if 200 ≤ aLast a s - aBase a s then aReply a s (aAskQ l) 3 0 []
  else aHold (A_append a s (aAskE a s l)) s l (aLast (A_append a s (aAskE a s l)) s) (-1)
theorem K_replyQ {F : Nat} {c : CS} {a : AA} {s : Nat} {l : AL} {x y y1 : Int32} {H : List (Nat × Option AL)} {U : Nat → Int32} {N : Nat × Nat} (hF : 130 ≤ F) (h : RC c a ((H, U), N)) (hs : s < 7) (hf : aInR (l.1 2) 0 6 = true ∨ aInR (l.1 2) 8 15 = true) (hy : x = 0 ∨ x = 1 → y1 = y) (hH : H.length ≤ 5) : WP (k_Server_reply F c s (l.1 2) (l.1 5) x y1 0) (fun c' => RC c' (aReply a s (aAskQ l) x y []) ((H, U), N)) := K_reply2 (q := aAskQ l) (bs := []) hF h hs hf (by simp) (fun i hi => absurd hi (by simp)) hy hH
theorem K_takeRequest {F : Nat} {c : CS} {a : AA} {s ad : Nat} {l : AL} {H : List (Nat × Option AL)} {U : Nat → Int32} {N : Nat × Nat} (hF : 400 ≤ F) (h : RC c a (((ad, some l) :: H, U), N)) (hs : s < 7) (hu : aS a 52 s = 1) (w : WLg a s) (wc : WCh a s) (hm : mdOK a 0) (hk : l.1 4 = 10) (hf : aInR (l.1 2) 0 6 = true ∨ aInR (l.1 2) 8 15 = true) (hH : H.length ≤ 4) (hmx : (aS a 151 s).toInt < 2147483000) (h80 : aS a 80 s = -1 ∨ 0 ≤ aS a 80 s) (hp : ¬ 200 ≤ aLast a s - aBase a s → pApp a s) (h12 : 0 ≤ (l.1 12).toInt ∧ (l.1 12).toInt ≤ 256) : WP (k_Server_takeRequest F c s ad) (fun c' => RC c' (aAsk0 a s l) (((ad, some l) :: H, if aAskN a s l then aU U s (U s ||| 64) else U), N)) := by
  have l0 := RC_hand h List.mem_cons_self
  have e2 : cI c 8 ad 2 0 = l.1 2 := l0.1 2 (by decide)
  have e5 : cI c 8 ad 5 0 = l.1 5 := l0.1 5 (by decide)
  have e6 : cI c 8 ad 6 0 = l.1 6 := LR_f l0 hk (by rw [lF10]; decide)
  have e12 : cI c 8 ad 12 0 = l.1 12 := LR_f l0 hk (by rw [lF10]; decide)
  have e14 : cI c 8 ad 14 0 = l.1 14 := LR_f l0 hk (by rw [lF10]; decide)
  have e15 : cI c 8 ad 15 0 = l.1 15 := LR_f l0 hk (by rw [lF10]; decide)
  have e16 : cI c 8 ad 16 0 = l.1 16 := LR_f l0 hk (by rw [lF10]; decide)
  unfold k_Server_takeRequest k_Server_takeRequest_b0 aAsk0
  rw [K_r h (F := 73) (cl := 13) (f := 12) (by decide) hs]
  refine WP_if c2_ne (fun r => ?_) (fun r => ?_)
  · rw [if_pos (Or.inl r), if_neg r, if_neg (show ¬ aAskN a s l from fun z => r z.1)]
    unfold k_Server_takeRequest_b19 k_Server_takeRequest_b51 k_Server_takeRequest_b225
    rw [K_r h (F := 73) (cl := 13) (f := 12) (by decide) hs, e2, e5, K_r h (F := 74) (cl := 13) (f := 13) (by decide) hs]
    refine WP_if c2_ne (fun _ => ?_) (fun z => absurd r z)
    exact WP_call (K_replyQ (by omega) h hs hf (fun _ => rfl) (by simpa using hH)) (fun c1 h1 => WP_some h1)
  · have r : aS a 73 s = 3 := Classical.not_not.mp r
    rw [K_r h (F := 80) (cl := 7) (f := 10) (by decide) hs]
    refine WP_if c2_eq (fun z => ?_) (fun z => ?_)
    · have z : aS a 80 s = -1 := z
      have z2 : ¬ 0 ≤ aS a 80 s := by
        rw [z]
        decide
      rw [if_neg (show ¬ (¬ aS a 73 s = 3 ∨ 0 ≤ aS a 80 s) from fun k => k.elim (fun k => k r) z2), e6]
      refine WP_if c2_ne (fun y => ?_) (fun y => ?_)
      · have y : ¬ l.1 6 = 2 := y
        rw [if_neg y]
        unfold k_Log_length k_Log_length_b0
        rw [K_r h (F := 56) (cl := 9) (f := 6) (by decide) hs, K_r h (F := 55) (cl := 9) (f := 3) (by decide) hs]
        refine WP_b ?_
        refine WP_if c2_lt (fun x => ?_) (fun x => ?_)
        · have x : ¬ 200 ≤ aLast a s - aBase a s := Int32.not_le.mpr x
          rw [if_neg x, if_pos (show aAskN a s l from ⟨r, z2, y, x⟩), K_r h (F := 53) (cl := 13) (f := 10) (by decide) hs, e12, e14, e15, e16]
          refine K_ownE (by omega) h hs w wc (hp x) hm h12 (fun c1 h1 => ?_)
          have fr : AFr [43, 56, 64, 65, 2, 31, 32, 71] [2, 6, 8] a (A_append a s (aAskE a s l)) := AFr_app
          have h1 : RC c1 (A_append a s (aAskE a s l)) (((ad, some l) :: H, U), N) := h1
          have f52 : aS (A_append a s (aAskE a s l)) 52 s = 1 := (fr.1 52 (by decide) s).trans hu
          have f151 : (aS (A_append a s (aAskE a s l)) 151 s).toInt < 2147483000 := by
            rw [fr.1 151 (by decide)]
            exact hmx
          generalize A_append a s (aAskE a s l) = b at h1 f52 f151
          rw [K_r h1 (F := 56) (cl := 9) (f := 6) (by decide) hs, K_r h1 (F := 53) (cl := 13) (f := 10) (by decide) hs]
          refine WP_call (K_hold h1 hs f52 hk f151) (fun c2 h2 => WP_b ?_)
          unfold k_Server_takeRequest_b225
          exact WP_some (K_due h2 hs)
        · have x : 200 ≤ aLast a s - aBase a s := Int32.not_lt.mp x
          rw [if_pos x, if_neg (show ¬ aAskN a s l from fun k => k.2.2.2 x), e2, e5]
          unfold k_Server_takeRequest_b225
          exact WP_call (K_replyQ (by omega) h hs hf (fun k => absurd k (by decide)) (by simpa using hH)) (fun c1 h1 => WP_some h1)
      · have y : l.1 6 = 2 := Classical.not_not.mp y
        rw [if_pos y, if_neg (show ¬ aAskN a s l from fun k => k.2.2.1 y), K_r h (F := 75) (cl := 9) (f := 9) (by decide) hs]
        refine WP_eq (K_termAt h hs w) ?_
        have hl := h.2.2.2.1 s hs r
        have e8 : cI c 7 s 8 0 = aS a 82 s := hl.1
        have e9 : cI c 7 s 9 0 = aS a 83 s := hl.2.1
        unfold k_Server_takeRequest_b104 k_Server_takeRequest_b225
        rw [K_r h (F := 53) (cl := 13) (f := 10) (by decide) hs, e8, e9]
        refine WP_if c2_ne (fun x => ?_) (fun x => ?_)
        · rw [if_neg x]
          exact WP_call (K_hold h hs hu hk hmx) (fun c1 h1 => WP_some h1)
        · have x : aTermAt a s (aS a 75 s) = aS a 53 s := Classical.not_not.mp x
          rw [if_pos x]
          exact WP_call (K_hold h hs hu hk hmx) (fun c1 h1 => WP_some h1)
    · have z2 : 0 ≤ aS a 80 s := h80.resolve_left z
      rw [if_pos (Or.inr z2), if_pos r, if_neg (show ¬ aAskN a s l from fun k => k.2.1 z2)]
      unfold k_Server_takeRequest_b19 k_Server_takeRequest_b51 k_Server_takeRequest_b225
      rw [K_r h (F := 73) (cl := 13) (f := 12) (by decide) hs, e2, e5, K_r h (F := 80) (cl := 7) (f := 10) (by decide) hs]
      refine WP_if c2_ne (fun k => absurd r k) (fun _ => ?_)
      exact WP_call (K_replyQ (by omega) h hs hf (fun _ => rfl) (by simpa using hH)) (fun c1 h1 => WP_some h1)
