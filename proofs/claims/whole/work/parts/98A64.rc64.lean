/-! what is agreed is done, with what holds besides; behind the entries taken -/
theorem K_applyX {F : Nat} {c : CS} {a : AA} {s : Nat} {H : List (Nat × Option AL)} {U : Nat → Int32} {N : Nat × Nat} (hF : 400 ≤ F) (h : RC c a ((H, U), N)) (hs : s < 7) (hu : aS a 52 s = 1) (w : WLg a s) (mk : WMk a s) (x : EX a s) (hK : ∀ k ∈ aAk a, wfK k) (hE : ∀ e ∈ aLg a s, wfE (aAk a) e) (hH : H.length ≤ 5) : WP (k_Server_apply F c s) (fun c' => RC c' (aApplyN s 300 a) ((H, U), N) ∧ EX (aApplyN s 300 a) s ∧ WMk (aApplyN s 300 a) s) := by
  unfold k_Server_apply k_Server_apply_b0
  have hKl : ∀ k ∈ aAk a, k.2.length ≤ 300 ∧ ∀ x ∈ k.2, aLow8 x = x := fun k hk => ⟨Nat.le_trans (h.2.2.2.2.2.2.2.2.2.2.2.2.2.2.2.1.2.2.2.2.2.1 k hk) (by omega), (hK k hk).2.2⟩
  have key : ∀ (m f : Nat) (c : CS) (b : AA), m + 1 ≤ f → RC c b ((H, U), N) → aS b 52 s = 1 → WLg b s → WMk b s → EX b s → aAk b = aAk a → aLg b s = aLg a s → (aS b 75 s).toInt - (aS b 76 s).toInt ≤ m → WP (k_Server_apply_b10 F f c s (aS b 76 s + 1)) (fun c' => RC c' (aApplyN s m b) ((H, U), N) ∧ EX (aApplyN s m b) s ∧ WMk (aApplyN s m b) s) := by
    intro m
    induction m with
    | zero =>
      intro f c b g1 g2 g3 g4 g5 g6 g8 g9 g12
      have hz : ¬ aS b 76 s < aS b 75 s := fun y => by
        rw [Int32.lt_iff_toInt_lt] at y
        omega
      cases f with
      | zero => omega
      | succ f =>
        unfold k_Server_apply_b10 k_Server_apply_b241
        dsimp only
        rw [K_r g2 (F := 75) (cl := 9) (f := 9) (by decide) hs, if_pos]
        · exact WP_some ⟨g2, g6, g5⟩
        · obtain ⟨m1, m2, m3, m4⟩ := g5
          obtain ⟨w1, w2, w3, w4⟩ := g4
          rw [Int32.le_iff_toInt_le] at m1 m2 m3
          rw [c2_gt, Int32.lt_iff_toInt_lt, i_succ (by omega)]
          rw [Int32.lt_iff_toInt_lt] at hz
          omega
    | succ m ih =>
      intro f c b g1 g2 g3 g4 g5 g6 g8 g9 g12
      cases f with
      | zero => omega
      | succ f =>
        unfold k_Server_apply_b10 k_Server_apply_b241
        dsimp only
        rw [K_r g2 (F := 75) (cl := 9) (f := 9) (by decide) hs]
        by_cases hz : aS b 76 s < aS b 75 s
        · obtain ⟨hh, hp, hn0⟩ := mk_has g5 g4 hz
          rw [if_neg (fun y => by
            have y := c2_gt.mp y
            rw [Int32.lt_iff_toInt_lt, hp] at y
            rw [Int32.lt_iff_toInt_lt] at hz
            omega)]
          refine WP_eq (K_logHas g2 hs) ?_
          rw [hh, if_neg (show ¬ xc0 .eq (aB true) = true by decide)]
          have eN : aApplyN s (m + 1) b = aApplyN s m (aApply1 b s (aS b 76 s + 1)) := if_pos hz
          rw [eN]
          have hmem : aEnt b s (aS b 76 s + 1) ∈ aLg a s := by
            obtain ⟨i, i1, i2, i3, i4⟩ := aHas_i g4 hh
            unfold aEnt
            rw [i3, ← g9, List.getD_eq_getElem?_getD, List.getElem?_eq_getElem i1]
            exact List.getElem_mem i1
          have hE2 : (aEnt b s (aS b 76 s + 1)).2.1 = 2 → cmdOK (aAk b) (aEnt b s (aS b 76 s + 1)) := fun y => by
            rw [g8]
            exact cmd_of (hE _ hmem) hK y
          have fr := @AFr_apply1 b s (aS b 76 s + 1)
          refine K_apply1 (by omega) g2 hs g3 g4 hh g6.2.1 (fun q hq => (g6.2.2.2.1 q hq).1) hE2 g6.2.2.2.2.1 g6.2.2.2.2.2.1 hn0 hH (fun c' h' => ?_)
          have e76 := @ap1_76 b s (aS b 76 s + 1)
          have hlt : (aS b 76 s + 1).toInt < 2147483647 := by
            obtain ⟨m1, m2, m3, m4⟩ := g5
            obtain ⟨w1, w2, w3, w4⟩ := g4
            rw [Int32.le_iff_toInt_le] at m1 m2 m3
            rw [Int32.lt_iff_toInt_lt] at hz
            omega
          have hx := EX_ap1 g6 (g2.2.2.2.2.2.2.2.2.2.2.2.1 s hs).1.1 (by rw [g8]; exact hKl) hlt
          generalize aApply1 b s (aS b 76 s + 1) = X at h' fr e76 hx
          have f75 : aS X 75 s = aS b 75 s := fr.1 75 (by decide) s
          have f55 : aS X 55 s = aS b 55 s := fr.1 55 (by decide) s
          have f56 : aS X 56 s = aS b 56 s := fr.1 56 (by decide) s
          have f77 : aS X 77 s = aS b 77 s := fr.1 77 (by decide) s
          have flg : aLg X = aLg b := fr.2.2.2.1 (by decide)
          have := ih f c' X (by omega) h' (by rw [fr.1 52 (by decide)]; exact g3) ?_ ?_ hx (by rw [fr.2.2.2.2.2.2.2.2.2.2.2.1 (by decide)]; exact g8) (by rw [flg]; exact g9) (by rw [f75, e76, hp]; omega)
          · rw [e76] at this
            exact this
          · unfold WLg at g4 ⊢
            unfold aBase aLast at g4 ⊢
            rw [f55, f56, flg]
            exact g4
          · unfold WMk at g5 ⊢
            unfold aBase aLast at g5 ⊢
            rw [f55, f56, f75, f77, e76]
            refine ⟨?_, ?_, g5.2.2⟩
            · rw [Int32.le_iff_toInt_le, hp]
              have := g5.1
              rw [Int32.le_iff_toInt_le] at this
              omega
            · rw [Int32.le_iff_toInt_le, hp]
              rw [Int32.lt_iff_toInt_lt] at hz
              omega
        · rw [if_pos]
          · have e : aApplyN s (m + 1) b = b := aApplyN_z hz
            rw [e]
            exact WP_some ⟨g2, g6, g5⟩
          · obtain ⟨m1, m2, m3, m4⟩ := g5
            obtain ⟨w1, w2, w3, w4⟩ := g4
            rw [Int32.le_iff_toInt_le] at m1 m2 m3
            rw [c2_gt, Int32.lt_iff_toInt_lt, i_succ (by omega)]
            rw [Int32.lt_iff_toInt_lt] at hz
            omega
  rw [K_r h (F := 76) (cl := 9) (f := 10) (by decide) hs]
  refine key 300 F c a (by omega) h hu w mk x rfl rfl ?_
  obtain ⟨m1, m2, m3, m4⟩ := mk
  obtain ⟨w1, w2, w3, w4⟩ := w
  rw [Int32.le_iff_toInt_le] at m1 m2 m3
  omega
theorem WMk_fr {W T : List Nat} {a b : AA} {s : Nat} (h : AFr W T a b) (q : dj [55, 56, 75, 76, 77] W = true) (mk : WMk a s) : WMk b s := by
  unfold WMk aBase aLast at mk ⊢
  have e : ∀ f, f ∈ [55, 56, 75, 76, 77] → aS b f s = aS a f s := fun f hf => h.1 f (dj_m q hf) s
  rw [e 55 (by decide), e 56 (by decide), e 75 (by decide), e 76 (by decide), e 77 (by decide)]
  exact mk
theorem MD_fly {a : AA} {l : AL} {t : Int32} : MD 1 a (A_fly a l t) := by
  unfold A_fly
  refine MD_if (MD_w (MD_e (aS_If (by decide))) (by omega)) (fun m hm => ⟨1, Nat.le_refl _, ?_⟩)
  show aS (aAdd (aAdd a 2 0 1) 21 0 1) 2 0 = Int32.ofNat (m + 1)
  have e1 : aS (aAdd (aAdd a 2 0 1) 21 0 1) 2 0 = aS (aAdd a 2 0 1) 2 0 := aS_If (by decide)
  have e2 : aS (aAdd a 2 0 1) 2 0 = aS a 2 0 + 1 := rfl
  rw [e1, e2, hm, i_s]
theorem MD_dr {a b : AA} {m : Int32} {k : Nat} (h : MD k (A_draw a m).2 b) : MD k a b := h
theorem MD_out {a : AA} {l : AL} : MD 2 a (A_sendOut a l) := by
  have hl : ∀ X : AA, MD 2 X (aAdd X 22 0 1) := fun X => MD_w (MD_e (aS_If (by decide))) (by omega)
  unfold A_sendOut
  dsimp only
  refine MD_if (hl a) (MD_if (MD_w MD_fly (by omega)) (MD_if (MD_dr (hl _)) (MD_if ?_ ?_)))
  · exact MD_dr (m := 1000) (MD_dr (m := 1000) (MD_dr (m := aS a 27 0 + 1) (MD_t (k := 1) (j := 1) MD_fly (MD_dr (m := aS a 27 0 + 1) MD_fly))))
  · exact MD_dr (m := 1000) (MD_dr (m := 1000) (MD_dr (m := aS a 27 0 + 1) (MD_w MD_fly (by omega))))
theorem MD_post {a : AA} {s : Nat} {l : AL} : MD 2 a (A_post a s l) := by
  unfold A_post
  exact MD_if MD_out (MD_if (MD_w (MD_e rfl) (by omega)) (MD_w (MD_e rfl) (by omega)))
theorem MD_reply {a : AA} {s : Nat} {q : AQ} {x y : Int32} {bs : List Int32} : MD 2 a (aReply a s q x y bs) := MD_post
theorem MD_ap1 {a : AA} {s : Nat} {n : Int32} : MD 2 a (aApply1 a s n) := by
  rw [aApply1_e]
  dsimp only
  have h0 : ∀ (M : AM) (R : List AQ), MD 0 a (aRqS (aMcS (aI a 76 s n) s M) s R) := fun M R => MD_e (aS_If (a := a) (by decide))
  split
  · exact MD_w (h0 _ _) (by omega)
  · exact MD_if (MD_w (MD_t (h0 _ _) MD_reply) (by omega)) (MD_w (h0 _ _) (by omega))
theorem MD_apN {s : Nat} : ∀ (n : Nat) (a : AA), MD (2 * n) a (aApplyN s n a) := by
  intro n
  induction n with
  | zero => exact fun a => MD_e rfl
  | succ n ih =>
    intro a
    unfold aApplyN
    exact MD_if (MD_w (MD_t MD_ap1 (ih _)) (by omega)) (MD_w (MD_e rfl) (by omega))
theorem MD_reads {s : Nat} {c : Int32} : ∀ (l : List AQ) (a : AA), MD (2 * l.length) a (aReads s c l a) := by
  intro l
  induction l with
  | nil => exact fun a => MD_e rfl
  | cons q r ih =>
    intro a
    unfold aReads
    rw [List.length_cons]
    refine MD_if (MD_w (MD_t (k := 2) ?_ (ih _)) (by omega)) (MD_w (ih _) (by omega))
    exact MD_w (MD_t (MD_e rfl : MD 0 a (aRqS a s ((aRq a s).filter (fun x => !decide (x 0 = q 0))))) MD_reply) (by omega)
theorem MD_answer {a : AA} {s : Nat} : MD (2 * (aRq a s).length) a (A_answerReads a s) := MD_reads _ _
/-- what is agreed is done, reads answered, the log cut down -/
theorem K_applyAll {F : Nat} {c : CS} {a : AA} {s : Nat} {H : List (Nat × Option AL)} {U : Nat → Int32} {N : Nat × Nat} {g : CS → Option CS} {Q : CS → Prop} (hF : 400 ≤ F) (h : RC c a ((H, U), N)) (hs : s < 7) (hu : aS a 52 s = 1) (w : WLg a s) (wc : WCh a s) (mk : WMk a s) (x : EX a s) (hm : mdOK a 700) (hK : ∀ k ∈ aAk a, wfK k) (hE : ∀ e ∈ aLg a s, wfE (aAk a) e) (hH : H.length ≤ 5) (k : ∀ c', RC c' (A_apply a s) ((H, U), N) → WP (g c') Q) : WP ((k_Server_apply F c s).bind fun p => (k_Server_answerReads F p s).bind fun q => (k_Server_compact F q s).bind g) Q := by
  refine WP_call (K_applyX hF h hs hu w mk x hK hE hH) (fun c1 hc1 => ?_)
  obtain ⟨h1, x1, mk1⟩ := hc1
  have fr1 := AFr_applyN (s := s) 300 a
  have md1 := MD_apN (s := s) 300 a
  have eA : A_apply a s = if 24 ≤ aS (A_answerReads (aApplyN s 300 a) s) 76 s - aBase (A_answerReads (aApplyN s 300 a) s) s then A_compact (A_answerReads (aApplyN s 300 a) s) s else A_answerReads (aApplyN s 300 a) s := rfl
  rw [eA] at k
  generalize aApplyN s 300 a = b at h1 x1 mk1 fr1 md1 k
  have hub : aS b 52 s = 1 := (fr1.1 52 (by decide) s).trans hu
  have wb : WLg b s := WLg_fr fr1 (by decide) (by decide) w
  have wcb : WCh b s := WCh_c wc (congrFun (fr1.2.2.2.2.2.2.2.2.2.1 (by decide)) s) (fr1.1 56 (by decide) s) (fr1.1 55 (by decide) s) (fun g _ => congrFun (congrFun (fr1.2.2.2.2.2.2.2.1 (by decide)) s) g)
  obtain ⟨y1, y2, y3, y4, y5, y6, y7, y8, y9, y10, y11⟩ := id x1
  refine WP_call (K_answerReads (by omega) h1 hs hub y3 y1 y4 y5 (fun _ => y9.1) (fun hr p hp => (y10 hr p hp).2.1) hH) (fun c2 h2 => ?_)
  have fr2 := @AFr_answerReads b s
  have md2 := @MD_answer b s
  have x2 := EX_reads x1
  have hl := KRq_len (h1.2.2.2.2.1 s hs hub)
  generalize A_answerReads b s = d at h2 fr2 md2 x2 k
  have wd : WLg d s := WLg_fr fr2 (by decide) (by decide) wb
  have wcd : WCh d s := WCh_c wcb (congrFun (fr2.2.2.2.2.2.2.2.2.2.1 (by decide)) s) (fr2.1 56 (by decide) s) (fr2.1 55 (by decide) s) (fun g _ => congrFun (congrFun (fr2.2.2.2.2.2.2.2.1 (by decide)) s) g)
  have mkd : WMk d s := WMk_fr fr2 (by decide) mk1
  have hmd : mdOK d 0 := mdOK_w (mdOK_t hm (MD_t md1 md2) (by omega)) (by omega)
  exact WP_call (K_compact (by omega) h2 hs wd wcd mkd (fun e he => (x2.2.2.2.2.2.2.1 e he).1) hmd) (fun c3 h3 => k c3 h3)
/-- behind the entries that were taken -/
theorem K_settle528 {F : Nat} {c : CS} {a : AA} {s ad : Nat} {l : AL} {H : List (Nat × Option AL)} {U : Nat → Int32} {N : Nat × Nat} (hF : 400 ≤ F) (h : RC c a (((ad, some l) :: H, U), N)) (hs : s < 7) (hU : U s = 528) (hu : aS a 52 s = 1) (w : WLg a s) (wc : WCh a s) (mk : WMk a s) (x : EX a s) (hm : mdOK a 700) (hK : ∀ k ∈ aAk a, wfK k) (hE : ∀ e ∈ aLg a s, wfE (aAk a) e) (hk : l.1 4 = 5) (hf : aInR (l.1 2) 0 6 = true ∨ aInR (l.1 2) 8 15 = true) (hH : H.length ≤ 4) : WP (k_Server_settle F c s (some ad)) (fun c' => RC c' (aAppended (A_apply a s) s (l.1 2) 1 (l.1 7) (l.1 10)) (((ad, some l) :: H, aU U s 0), N)) := by
  unfold k_Server_settle k_Server_settle_b0
  refine due_no (b := 1) h hs hU (by decide) (by decide) (fun p z h => WP_if c0_eq (fun _ => ?_) (fun y => absurd z y))
  unfold k_Server_settle_b12
  refine due_no (b := 2) h hs hU (by decide) (by decide) (fun p z h => WP_if c0_eq (fun _ => ?_) (fun y => absurd z y))
  unfold k_Server_settle_b24
  refine due_no (b := 4) h hs hU (by decide) (by decide) (fun p z h => WP_if c0_eq (fun _ => ?_) (fun y => absurd z y))
  unfold k_Server_settle_b45
  refine due_no (b := 8) h hs hU (by decide) (by decide) (fun p z h => WP_if c0_eq (fun _ => ?_) (fun y => absurd z y))
  unfold k_Server_settle_b58
  refine due_do (b := 16) (v := 512) h hs hU (by decide) (by decide) (fun p z h => WP_if c0_eq (fun y => absurd y z) (fun _ => ?_))
  refine K_applyAll hF h hs hu w wc mk x hm hK hE (by simpa using hH) (fun c1 h => ?_)
  have hU : aU U s 512 s = 512 := aU_U
  unfold k_Server_settle_b79
  refine due_no (b := 32) h hs hU (by decide) (by decide) (fun p z h => WP_if c0_eq (fun _ => ?_) (fun y => absurd z y))
  unfold k_Server_settle_b92
  refine due_no (b := 64) h hs hU (by decide) (by decide) (fun p z h => WP_if c0_eq (fun _ => ?_) (fun y => absurd z y))
  unfold k_Server_settle_b106
  refine due_no (b := 128) h hs hU (by decide) (by decide) (fun p z h => WP_if c0_eq (fun _ => ?_) (fun y => absurd z y))
  unfold k_Server_settle_b120
  refine due_no (b := 256) h hs hU (by decide) (by decide) (fun p z h => WP_if c0_eq (fun _ => ?_) (fun y => absurd z y))
  unfold k_Server_settle_b142
  refine due_do (b := 512) (v := 0) h hs hU (by decide) (by decide) (fun p z h => WP_if c0_eq (fun y => absurd y z) (fun _ => ?_))
  rw [if_neg (by simp)]
  refine WP_b (WP_b (WP_b ?_))
  have l1 := RC_hand h List.mem_cons_self
  have f2 : cI p.2 8 ad 2 0 = l.1 2 := l1.1 2 (by decide)
  have f7 : cI p.2 8 ad 7 0 = l.1 7 := LR_f l1 hk (by rw [lF5]; decide)
  have f10 : cI p.2 8 ad 10 0 = l.1 10 := LR_f l1 hk (by rw [lF5]; decide)
  rw [f2, f7, f10]
  rw [aU_2] at h
  exact WP_call (K_appended (by omega) h hs hf (by simpa using hH)) (fun c2 h2 => WP_some h2)
