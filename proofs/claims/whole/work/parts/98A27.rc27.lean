/-! members move; a leader beats; an alarm rings -/
theorem K_ownE {F : Nat} {c : CS} {a : AA} {v : CV} {s : Nat} {x0 x1 x2 x3 x4 x5 : Int32} {g : CS → Option CS} {Q : CS → Prop} (hF : 20 ≤ F) (h : RC c a v) (hs : s < 7) (wl : WLg a s) (wc : WCh a s) (hp : pApp a s) (hmd : mdOK a 0) (he : 0 ≤ x2.toInt ∧ x2.toInt ≤ 256) (k : ∀ c', RC c' (A_append a s (x0, x1, x2, x3, x4, x5)) v → WP (g c') Q) : WP ((k_Log_rowOf c s x0 x1 x2 x3 x4 x5).bind fun p => (k_Server_append_9_2 F p.2 s p.1 ((0 : Int32))).bind g) Q := by
  have h0 : WP (k_Log_rowOf c s x0 x1 x2 x3 x4 x5) (fun p => p.1 = s ∧ RC p.2 a v ∧ ∀ j, j < 6 → cI p.2 9 s 2 j = kF (x0, x1, x2, x3, x4, x5) j) := K_rowOf (e := (x0, x1, x2, x3, x4, x5)) h hs
  refine WP_call h0 (fun p hp1 => ?_)
  obtain ⟨e1, h2, h3⟩ := hp1
  rw [e1, gSA_9]
  exact WP_call (K_append (cl := 9) (f := 2) (l1 := s) (m := 0) (e := (x0, x1, x2, x3, x4, x5)) hF h2 hs wl wc hp hmd (Or.inl ⟨rfl, rfl⟩) (show 0 + 6 ≤ 6 by omega) (by omega) (fun j hj => by rw [Nat.zero_add]; exact h3 j hj) he) (fun c' h' => k c' h'.1)
def aMoveM (a : AA) (s : Nat) : AA :=
  if aS a 75 s < aS a 64 s then a
  else if ¬ aNewM (aS a 65 s) = 0 then (if 300 ≤ aLast a s - aBase a s then a else A_appendCode a s (aNewM (aS a 65 s) ||| (aLearn (aS a 65 s) <<< 14)))
  else if aIn (aOldM (aS a 65 s)) s = false then A_stepDown a s (aS a 53 s) (-1)
  else a
theorem K_moveMembers {F : Nat} {c : CS} {a : AA} {s : Nat} {H : List (Nat × Option AL)} {U : Nat → Int32} {N : Nat × Nat} (hF : 33 ≤ F) (h : RC c a ((H, U), N)) (hs : s < 7) (hup : aS a 52 s = 1) (hl : aLoc a) (hm : mdOK a 1) (wl : WLg a s) (wc : WCh a s) (hp : ¬ 300 ≤ aLast a s - aBase a s → pApp a s) (hcode : aLearn (aS a 65 s) = aS a 65 s >>> 14) :
    WP (k_Server_moveMembers F c s) (fun c' => RC c' (aMoveM a s) ((H, if ¬ aS a 75 s < aS a 64 s ∧ ¬ aNewM (aS a 65 s) = 0 ∧ ¬ 300 ≤ aLast a s - aBase a s then aU U s (U s ||| 64) else U), N)) := by
  unfold k_Server_moveMembers k_Server_moveMembers_b0 k_Server_moveMembers_b124 k_Log_length k_Log_length_b0 aMoveM
  rw [K_r h (F := 64) (cl := 9) (f := 8) (by decide) hs, K_r h (F := 75) (cl := 9) (f := 9) (by decide) hs, K_r h (F := 65) (cl := 9) (f := 7) (by decide) hs, K_r h (F := 53) (cl := 13) (f := 10) (by decide) hs, K_r h (F := 56) (cl := 9) (f := 6) (by decide) hs, K_r h (F := 55) (cl := 9) (f := 3) (by decide) hs, RC_b1 h hs, show (7 : Int32) &&& 31 = 7 by decide, show (14 : Int32) &&& 31 = 14 by decide]
  refine WP_if c2_le (fun q => ?_) (fun q => ?_)
  · have q' : ¬ aS a 75 s < aS a 64 s := Int32.not_lt.mpr q
    rw [if_neg q']
    refine WP_if c0_eq (fun z => ?_) (fun z => ?_)
    · have z' : aNewM (aS a 65 s) = 0 := z
      rw [if_neg (show ¬ ¬ aNewM (aS a 65 s) = 0 from fun y => y z'), if_neg (show ¬ (¬ aS a 75 s < aS a 64 s ∧ ¬ aNewM (aS a 65 s) = 0 ∧ ¬ 300 ≤ aLast a s - aBase a s) from fun y => y.2.1 z')]
      have hb : (xc0 ClassFile.Cond.ne ((aS a 65 s >>> (Int32.ofNat s &&& 31)) &&& 1) = true) ↔ aIn (aOldM (aS a 65 s)) s = true := by
        unfold aOldM
        rw [aIn_m hs, c0_ne, ← c0_eq, bit_k hs]
        simp
      refine WP_if hb (fun y => ?_) (fun y => ?_)
      · rw [if_neg (by rw [y]; decide)]
        exact WP_some h
      · rw [if_pos (by simpa using y)]
        exact WP_call (K_stepDown hF h hs hup hl hm) (fun c1 h1 => WP_some h1)
    · have z' : ¬ aNewM (aS a 65 s) = 0 := z
      rw [if_pos z']
      refine WP_b ?_
      refine WP_if c2_ge (fun y => ?_) (fun y => ?_)
      · have y' : 300 ≤ aLast a s - aBase a s := y
        rw [if_pos y', if_neg (fun k => k.2.2 y')]
        exact WP_some h
      · have y' : ¬ 300 ≤ aLast a s - aBase a s := y
        rw [if_neg y', if_pos ⟨q', z', y'⟩, hcode]
        exact K_ownE (by omega) h hs wl wc (hp y') (mdOK_w hm (by omega)) (by decide) (fun c2 h2 => WP_b (WP_some (K_due h2 hs)))
  · have q' : aS a 75 s < aS a 64 s := Int32.not_le.mp q
    rw [if_pos q', if_neg (fun k => k.1 q')]
    exact WP_some h
theorem AFr_beatPs {a : AA} {s : Nat} : ∀ n, AFr [86, 88, 89, 93] [] a (aBeatPeers a s n) := by
  intro n
  induction n with
  | zero => exact AFr_w AFr_r (by decide) (by decide)
  | succ n ih =>
    unfold aBeatPeers A_beatPeer
    dsimp only
    refine AFr_w (AFr_t ih (W' := [86, 88, 89, 93]) (T' := []) ?_) (by decide) (by decide)
    split
    · exact AFr_w (AFr_t (AFr_t (AFr_t AFr_I AFr_I) AFr_I) AFr_I) (by decide) (by decide)
    · exact AFr_w AFr_I (by decide) (by decide)
def aBeat3 (a a1 : AA) (s : Nat) : AA :=
  let a2 := aBeatPeers (aAdd (A_alarm a1 s (aNow a1 + 10)) 83 s 1) s 7
  aI (aI (aI a2 87 (7 * s + s) (aS a 77 s)) 92 (7 * s + s) (aNow a)) 91 (7 * s + s) (aS a2 83 s)
theorem A_beat_e3 {a : AA} {s : Nat} : A_beat a s = A_answerReads (A_sendAll (aBeat3 a (if 0 ≤ aS a 80 s ∧ 50 < aNow a - aS a 81 s then aI a 80 s (-1) else a) s) s true) s := by
  unfold A_beat aBeat3
  have e : aNow (if 0 ≤ aS a 80 s ∧ 50 < aNow a - aS a 81 s then aI a 80 s (-1) else a) = aNow a := by
    split
    · rfl
    · rfl
  dsimp only
  rw [e]
theorem RC_83 {c : CS} {a : AA} {v : CV} {s : Nat} {x : Int32} (h : RC c a v) : RC (csI c 7 s 9 0 x) (aI a 83 s x) v := by
  have hF : Ck [233] s c (csI c 7 s 9 0 x) := Ck_I (cl := 7) (i := s) (f := 9) (Or.inr rfl)
  have e : ∀ g, g ∉ [83] → ∀ j, aS (aI a 83 s x) g j = aS a g j := fun g hg j => aS_If (fun z => hg (by rw [z]; exact List.mem_cons_self))
  have hld : ∀ t, t < 7 → aS (aI a 83 s x) 73 t = 3 → KLd (csI c 7 s 9 0 x) (aI a 83 s x) t := by
    intro t ht hr
    obtain ⟨k1, k2, k3⟩ := KLd_i.mp (h.2.2.2.1 t ht hr)
    refine KLd_i.mpr ⟨(csI_f (by decide)).trans k1, ?_, fun y hy p hp => ?_⟩
    · by_cases q : t = s
      · rw [q]
        exact csI_e.trans (if_pos ⟨rfl, rfl⟩).symm
      · exact (csI_ne (fun z => q z.2.1)).trans (k2.trans (if_neg (fun z => q z.2)).symm)
    · obtain ⟨n1, n2⟩ := (by decide : ∀ y ∈ ldT, y.2 ≠ 9 ∧ y.1 ≠ 83) y hy
      rw [csI_f n1, aS_If n2]
      exact k3 y hy p hp
  exact ⟨KSc_k hF (by decide) e (by decide) h.1, fr_k hF (by decide) e (by decide) h.2.1, hd_k hF (by decide) e (by decide) h.2.2.1, hld, rq_k hF (by decide) e (by decide) rfl h.2.2.2.2.1, bl_k hF (by decide) e (by decide) h.2.2.2.2.2.1, da_k hF (by decide) e (by decide) rfl h.2.2.2.2.2.2.1, lw_k hF (by decide) e (by decide) h.2.2.2.2.2.2.2.1, fun s hs => KG_fr hF (by decide) (h.2.2.2.2.2.2.2.2.1 s hs), fun s hs => KPg_fr hF (by decide) (h.2.2.2.2.2.2.2.2.2.1 s hs), fun s hs => KCh_fr hF (by decide) (h.2.2.2.2.2.2.2.2.2.2.1 s hs), fun s hs => KMc_fr hF (by decide) (h.2.2.2.2.2.2.2.2.2.2.2.1 s hs), pc_k hF (by decide) e (by decide) rfl h.2.2.2.2.2.2.2.2.2.2.2.2.1, cl_k hF (by decide) e (by decide) h.2.2.2.2.2.2.2.2.2.2.2.2.2.1, fun k hk => KDn_fr hF (by decide) (h.2.2.2.2.2.2.2.2.2.2.2.2.2.2.1 k hk), KAk_fr hF (by decide) h.2.2.2.2.2.2.2.2.2.2.2.2.2.2.2.1, KFc_fr hF (by decide) h.2.2.2.2.2.2.2.2.2.2.2.2.2.2.2.2.1, id_k hF (by decide) e (by decide) h.2.2.2.2.2.2.2.2.2.2.2.2.2.2.2.2.2.1, fun k hk => KIc_fr hF (by decide) (h.2.2.2.2.2.2.2.2.2.2.2.2.2.2.2.2.2.2.1 k hk), KLt_fr hF rfl (by decide) h.2.2.2.2.2.2.2.2.2.2.2.2.2.2.2.2.2.2.2.1, KRm_fr hF rfl (by decide) h.2.2.2.2.2.2.2.2.2.2.2.2.2.2.2.2.2.2.2.2.1, sh_k e (by decide) rfl rfl h.2.2.2.2.2.2.2.2.2.2.2.2.2.2.2.2.2.2.2.2.2.1, nw_k e (by decide) h.2.2.2.2.2.2.2.2.2.2.2.2.2.2.2.2.2.2.2.2.2.2⟩
theorem beatL {F : Nat} {a : AA} {s : Nat} {x : Int32} {v : CV} (hs : s < 7) (hr : aS a 73 s = 3) (x2 : ∀ p, p < 7 → aIn x p = aPeer a s p) : ∀ n p c, 8 ≤ p + n → p ≤ 7 → RC c (aBeatPeers a s p) v → WP (k_Server_beat_b80 F n c s x (Int32.ofNat p)) (fun c' => RC c' (aI (aI (aI (aBeatPeers a s 7) 87 (7 * s + s) (aS a 77 s)) 92 (7 * s + s) (aNow a)) 91 (7 * s + s) (aS (aBeatPeers a s 7) 83 s)) v) := by
  intro n
  induction n with
  | zero => intro p c h1 h2; omega
  | succ n ih =>
    intro p c h1 h2 h3
    unfold k_Server_beat_b80
    dsimp only
    unfold k_Server_beat_b158
    have fr := @AFr_beatPs a s p
    by_cases q : p = 7
    · subst q
      rw [if_pos (by decide), RC_b1 h3 hs, K_r h3 (F := 77) (cl := 9) (f := 11) (by decide) hs, fr.1 77 (by decide)]
      rw [K_cwr (F := 87) (by decide) hs]
      have g1 := RC_ldw (s := s) (x := aS a 77 s) h3 (F := 87) (f := 1) (by decide) hs
      refine WP_b ?_
      rw [RC_b1 g1 hs, K_r g1 (F := 1) (cl := 14) (f := 0) (by decide) (by decide), K_cwr (F := 92) (by decide) hs]
      have e1 : aS (aI (aBeatPeers a s 7) 87 (7 * s + s) (aS a 77 s)) 1 0 = aNow a := (aS_If (by decide)).trans (fr.1 1 (by decide) 0)
      rw [e1]
      have g2 := RC_ldw (s := s) (x := aNow a) g1 (F := 92) (f := 5) (by decide) hs
      refine WP_b ?_
      have r2 : aS (aI (aI (aBeatPeers a s 7) 87 (7 * s + s) (aS a 77 s)) 92 (7 * s + s) (aNow a)) 73 s = 3 := (aS_If (by decide)).trans ((aS_If (by decide)).trans ((fr.1 73 (by decide) s).trans hr))
      rw [RC_b1 g2 hs, (g2.2.2.2.1 s hs r2).2.1, K_cwr (F := 91) (by decide) hs]
      have e2 : aS (aI (aI (aBeatPeers a s 7) 87 (7 * s + s) (aS a 77 s)) 92 (7 * s + s) (aNow a)) 83 s = aS (aBeatPeers a s 7) 83 s := (aS_If (by decide)).trans (aS_If (by decide))
      rw [e2]
      have g3 := RC_ldw (s := s) (x := aS (aBeatPeers a s 7) 83 s) g2 (F := 91) (f := 4) (by decide) hs
      exact WP_b (WP_some g3)
    · have hp : p < 7 := by omega
      rw [if_neg (fun y => by
        rw [show (7 : Int32) = Int32.ofNat 7 from rfl] at y
        have := (i_gei (by omega) (by omega)).mp y
        omega)]
      have ev : aPeer (aBeatPeers a s p) s p = aPeer a s p := by
        unfold aPeer aVoters
        rw [fr.1 65 (by decide)]
      have es : aBeatPeers a s (p + 1) = A_beatPeer (aBeatPeers a s p) s p := rfl
      have hrb := (fr.1 73 (by decide) s).trans hr
      have xp := x2 p hp
      generalize aBeatPeers a s p = b at h3 ev es hrb
      unfold A_beatPeer at es
      dsimp only at es
      have k00 : (0 : Int32) &&& 1 = 0 := by decide
      have k11 : (1 : Int32) &&& 1 = 1 := by decide
      rw [k00, k11]
      -- the peer is left as it is
      have skip : ¬ (aPeer b s p = true ∧ 0 < aS b 88 (7 * s + p) ∧ aS b 93 (7 * s + p) = 0) → WP ((cwr c 7 s 7 (Int32.ofNat p) 0).bind fun σ1 => k_Server_beat_b80 F n σ1 s x (Int32.ofNat p + 1)) (fun c' => RC c' (aI (aI (aI (aBeatPeers a s 7) 87 (7 * s + s) (aS a 77 s)) 92 (7 * s + s) (aNow a)) 91 (7 * s + s) (aS (aBeatPeers a s 7) 83 s)) v) := by
        intro hn
        rw [if_neg hn] at es
        rw [K_cwr (F := 93) (by decide) hp]
        refine WP_b ?_
        rw [i_s]
        refine ih (p + 1) _ (by omega) (by omega) ?_
        rw [es]
        exact RC_ldw h3 (F := 93) (f := 7) (by decide) hp
      refine WP_if (bit_k hp) (fun z => skip (fun y => by rw [← ev, y.1] at xp; rw [z] at xp; exact absurd xp (by decide))) (fun z => ?_)
      have hpe : aPeer b s p = true := by
        rw [ev, ← xp]
        simpa using z
      rw [K_crd h3 hs hrb (F := 88) (f := 2) (by decide) hp]
      refine WP_b ?_
      refine WP_if c0_le (fun y => skip (fun k => Int32.not_lt.mpr y k.2.1)) (fun y => ?_)
      rw [K_crd h3 hs hrb (F := 93) (f := 7) (by decide) hp]
      refine WP_b ?_
      refine WP_if c0_ne (fun y2 => skip (fun k => y2 k.2.2)) (fun y2 => ?_)
      have y2 : aS b 93 (7 * s + p) = 0 := Classical.not_not.mp y2
      rw [if_pos ⟨hpe, Int32.not_le.mp y, y2⟩] at es
      rw [K_cwr (F := 88) (by decide) hp]
      refine WP_b ?_
      have g1 := RC_ldw (s := s) (x := 0) h3 (F := 88) (f := 2) (by decide) hp
      rw [K_cwr (F := 89) (by decide) hp]
      refine WP_b ?_
      have g2 := RC_ldw (s := s) (x := 1) g1 (F := 89) (f := 6) (by decide) hp
      have r2 : aS (aI (aI b 88 (7 * s + p) 0) 89 (7 * s + p) 1) 73 s = 3 := (aS_If (by decide)).trans ((aS_If (by decide)).trans hrb)
      rw [K_crd g2 hs r2 (F := 87) (f := 1) (by decide) hp]
      refine WP_b ?_
      have e87 : aS (aI (aI b 88 (7 * s + p) 0) 89 (7 * s + p) 1) 87 (7 * s + p) = aS b 87 (7 * s + p) := (aS_If (by decide)).trans (aS_If (by decide))
      rw [e87, K_cwr (F := 86) (by decide) hp]
      refine WP_b ?_
      have g3 := RC_ldw (s := s) (x := aS b 87 (7 * s + p) + 1) g2 (F := 86) (f := 0) (by decide) hp
      rw [K_cwr (F := 93) (by decide) hp]
      refine WP_b ?_
      rw [i_s]
      refine ih (p + 1) _ (by omega) (by omega) ?_
      rw [es]
      exact RC_ldw g3 (F := 93) (f := 7) (by decide) hp
theorem K_beat39 {F : Nat} {c : CS} {a a0 : AA} {v : CV} {s : Nat} (hF : 8 ≤ F) (h : RC c a v) (hs : s < 7) (hr : aS a 73 s = 3) (hm : mdOK a 0) (e77 : aS a 77 s = aS a0 77 s) (e1 : aNow a = aNow a0) : WP (k_Server_beat_b39 F c s) (fun c' => RC c' (aBeat3 a0 a s) v) := by
  obtain ⟨n1, n2, _⟩ := h.2.2.2.2.2.2.2.2.2.2.2.2.2.2.2.2.2.2.2.2.2.2
  have en : 0 ≤ aNow a + 10 := by
    rw [Int32.le_iff_toInt_le, i_0, i_addI (by rw [show (10 : Int32).toInt = 10 by decide]; omega) (by rw [show (10 : Int32).toInt = 10 by decide]; omega), show (10 : Int32).toInt = 10 by decide]
    omega
  unfold k_Server_beat_b39
  rw [RC_b1 h hs, K_r h (F := 1) (cl := 14) (f := 0) (by decide) (by decide), show aS a 1 0 = aNow a from rfl]
  refine WP_call (K_alarm (e := s) h (by omega) hm en) (fun c1 h1 => ?_)
  have fr := @AFr_alarm a s (aNow a + 10)
  have er : aS (A_alarm a s (aNow a + 10)) 73 s = 3 := (fr.1 73 (by decide) s).trans hr
  rw [(h1.2.2.2.1 s hs er).2.1]
  refine WP_b ?_
  have h2 := RC_83 (s := s) (x := aS (A_alarm a s (aNow a + 10)) 83 s + 1) h1
  have e3 : aBeat3 a0 a s = aI (aI (aI (aBeatPeers (aAdd (A_alarm a s (aNow a + 10)) 83 s 1) s 7) 87 (7 * s + s) (aS a0 77 s)) 92 (7 * s + s) (aNow a0)) 91 (7 * s + s) (aS (aBeatPeers (aAdd (A_alarm a s (aNow a + 10)) 83 s 1) s 7) 83 s) := rfl
  rw [e3]
  have ed : aAdd (A_alarm a s (aNow a + 10)) 83 s 1 = aI (A_alarm a s (aNow a + 10)) 83 s (aS (A_alarm a s (aNow a + 10)) 83 s + 1) := rfl
  rw [ed]
  have f2 : AFr [2, 29, 30, 83] [] a (aI (A_alarm a s (aNow a + 10)) 83 s (aS (A_alarm a s (aNow a + 10)) 83 s + 1)) := AFr_w (AFr_t fr AFr_I) (by decide) (by decide)
  generalize aI (A_alarm a s (aNow a + 10)) 83 s (aS (A_alarm a s (aNow a + 10)) 83 s + 1) = b at h2 f2
  obtain ⟨x, x1, x2⟩ := K_peers h2 hs
  rw [x1]
  refine WP_b ?_
  have key := beatL (F := F) (a := b) hs ((f2.1 73 (by decide) s).trans hr) x2 F 0 _ (by omega) (by omega) h2
  have k1 : aS b 77 s = aS a0 77 s := (f2.1 77 (by decide) s).trans e77
  have k2 : aNow b = aNow a0 := (f2.1 1 (by decide) 0).trans e1
  rw [k1, k2] at key
  exact key
theorem K_beat {F : Nat} {c : CS} {a : AA} {v : CV} {s : Nat} (hF : 8 ≤ F) (h : RC c a v) (hs : s < 7) (hr : aS a 73 s = 3) (hm : mdOK a 0) (h80 : aS a 80 s = -1 ∨ 0 ≤ aS a 80 s) : WP (k_Server_beat F c s) (fun c' => RC c' (aBeat3 a (if 0 ≤ aS a 80 s ∧ 50 < aNow a - aS a 81 s then aI a 80 s (-1) else a) s) v) := by
  unfold k_Server_beat k_Server_beat_b0
  rw [K_r h (F := 80) (cl := 7) (f := 10) (by decide) hs, K_r h (F := 81) (cl := 7) (f := 11) (by decide) hs, K_r h (F := 1) (cl := 14) (f := 0) (by decide) (by decide)]
  refine WP_if c2_eq (fun q => ?_) (fun q => ?_)
  · rw [if_neg (fun z => by rw [q] at z; exact absurd z.1 (by decide))]
    exact K_beat39 hF h hs hr hm rfl rfl
  · have q' := h80.resolve_left q
    refine WP_if c2_le (fun z => ?_) (fun z => ?_)
    · rw [if_neg (fun y => Int32.not_lt.mpr z y.2)]
      exact K_beat39 hF h hs hr hm rfl rfl
    · rw [if_pos ⟨q', Int32.not_le.mp z⟩]
      have h1 := RC_I (x := -1) h (F := 80) (cl := 7) (f := 10) (i := s) (by decide) (by decide)
      exact WP_b (K_beat39 hF h1 hs ((aS_If (by decide)).trans hr) (mdOK_s hm (aS_If (by decide))) rfl rfl)
/-- an alarm rings: what is done at once, what is due then -/
def aRing1 (a : AA) (s : Nat) : AA × Int32 :=
  if aS a 73 s = 3 then
    let a1 := aI a 92 (7 * s + s) (aNow a)
    if aCommon (aS a 65 s) (fun p => aS a1 92 (7 * s + p)) 7 < aNow a - 100 then (A_stepDown a1 s (aS a 53 s) (-1), 0) else (a1, 4)
  else
    let a1 := A_drawAlarm a s
    if aVoter a1 s s then
      let a2 := aI (aI (aI a1 73 s 1) 74 s (-1)) 79 s (1 <<< Int32.ofNat s)
      let a3 := aAskVoters a2 s 1 (aS a2 53 s + 1) 7
      (a3, if aMaj (aS a3 65 s) (aS a3 79 s) then 1 else 0)
    else (a1, 0)
theorem aU_or0 {U : Nat → Int32} {s : Nat} : aU U s (U s ||| 0) = U := by
  rw [Int32.or_zero]
  exact aU_self
theorem K_wake {F : Nat} {c : CS} {a : AA} {s : Nat} {H : List (Nat × Option AL)} {U : Nat → Int32} {N : Nat × Nat} (hF : 130 ≤ F) (h : RC c a ((H, U), N)) (hs : s < 7) (hup : aS a 52 s = 1) (hl : aLoc a) (hm : mdOK a 1) (wl : WLg a s) (hH : H.length ≤ 5) (ho : ∃ p, p < 7 ∧ aIn (aOldM (aS a 65 s)) p = true) (h0 : ∀ p, p < 7 → 0 ≤ aS (aI a 92 (7 * s + s) (aNow a)) 92 (7 * s + p)) :
    WP (k_Server_wake F c s) (fun c' => RC c' (aRing1 a s).1 ((H, aU U s (U s ||| (aRing1 a s).2)), N)) := by
  unfold k_Server_wake k_Server_wake_b0 k_Server_wake_b79 k_Server_wake_b157 aRing1
  dsimp only
  rw [K_r h (F := 73) (cl := 13) (f := 12) (by decide) hs, RC_b1 h hs]
  refine WP_if c2_ne (fun q => ?_) (fun q => ?_)
  · rw [if_neg q]
    refine WP_call (K_drawAlarm h hs (mdOK_w hm (by omega))) (fun c1 h1 => ?_)
    have fr := @AFr_drawAlarm a s
    have w1 := WLg_fr fr (by decide) (by decide) wl
    generalize A_drawAlarm a s = b at h1 fr w1
    obtain ⟨x, x1, x2⟩ := K_voters h1 hs
    rw [x1, RC_b1 h1 hs]
    refine WP_b ?_
    refine WP_if (bit_k hs) (fun z => ?_) (fun z => ?_)
    · rw [if_neg (by rw [← x2 s hs, z]; decide)]
      rw [aU_or0]
      exact WP_some h1
    · have z' : aIn x s = true := by simpa using z
      rw [if_pos (by rw [← x2 s hs]; exact z')]
      have h2 := RC_73 (s := s) (x := 1) h1 (by decide)
      refine WP_b ?_
      have h3 := RC_I (x := -1) h2 (F := 74) (cl := 13) (f := 13) (i := s) (by decide) (by decide)
      refine WP_b ?_
      rw [RC_b1 h3 hs, i_31 (by omega)]
      have h4 := RC_I (x := 1 <<< Int32.ofNat s) h3 (F := 79) (cl := 13) (f := 15) (i := s) (by decide) (by decide)
      refine WP_b ?_
      rw [K_r h4 (F := 53) (cl := 13) (f := 10) (by decide) hs]
      have f4 : AFr [73, 74, 79] [] b (aI (aI (aI b 73 s 1) 74 s (-1)) 79 s (1 <<< Int32.ofNat s)) := AFr_w (AFr_t (AFr_t AFr_I AFr_I) AFr_I) (by decide) (by decide)
      have w4 := WLg_fr f4 (by decide) (by decide) w1
      generalize aI (aI (aI b 73 s 1) 74 s (-1)) 79 s (1 <<< Int32.ofNat s) = d at h4 w4
      refine WP_call (K_askVoters hF h4 hs w4 (Or.inl rfl) hH) (fun c5 h5 => ?_)
      generalize aAskVoters d s 1 (aS d 53 s + 1) 7 = e at h5
      rw [K_r h5 (F := 79) (cl := 13) (f := 15) (by decide) hs, K_isMajority h5 hs]
      refine WP_b ?_
      cases hmj : aMaj (aS e 65 s) (aS e 79 s) with
      | false =>
        rw [if_pos (show xc0 ClassFile.Cond.eq (aB false) = true by decide), if_neg (show ¬ false = true by decide), aU_or0]
        exact WP_some h5
      | true =>
        rw [if_neg (show ¬ xc0 ClassFile.Cond.eq (aB true) = true by decide), if_pos rfl]
        exact WP_b (WP_some (K_due h5 hs))
  · have hr : aS a 73 s = 3 := Classical.not_not.mp q
    rw [if_pos hr, K_r h (F := 1) (cl := 14) (f := 0) (by decide) (by decide), K_cwr (F := 92) (by decide) hs]
    refine WP_b ?_
    have h1 := RC_ldw (s := s) (x := aNow a) h (F := 92) (f := 5) (by decide) hs
    have h1 : RC (csI c 7 s 5 s (aNow a)) (aI a 92 (7 * s + s) (aNow a)) ((H, U), N) := h1
    have fr : AFr [92] [] a (aI a 92 (7 * s + s) (aNow a)) := AFr_I
    have hrb : aS (aI a 92 (7 * s + s) (aNow a)) 73 s = 3 := (aS_If (by decide)).trans hr
    have e1 : aS (aI a 92 (7 * s + s) (aNow a)) 1 0 = aNow a := aS_If (by decide)
    have e65 : aS (aI a 92 (7 * s + s) (aNow a)) 65 s = aS a 65 s := aS_If (by decide)
    have e53 : aS (aI a 92 (7 * s + s) (aNow a)) 53 s = aS a 53 s := aS_If (by decide)
    have eA : aS a 1 0 = aNow a := rfl
    rw [eA]
    generalize aI a 92 (7 * s + s) (aNow a) = b at h1 fr hrb e1 e65 e53 h0
    rw [K_r h1 (F := 65) (cl := 9) (f := 7) (by decide) hs, e65, K_most5 (x := fun p => aS b 92 (7 * s + p)) (by omega) (fun p hp => K_ld h1 hs hrb (F := 92) (by decide) hp) ho h0]
    refine WP_b ?_
    rw [K_r h1 (F := 1) (cl := 14) (f := 0) (by decide) (by decide), e1]
    refine WP_if c2_ge (fun z => ?_) (fun z => ?_)
    · rw [if_neg (Int32.not_lt.mpr z)]
      exact WP_b (WP_some (K_due h1 hs))
    · rw [if_pos (Int32.not_le.mp z), K_r h1 (F := 53) (cl := 13) (f := 10) (by decide) hs, e53]
      refine WP_call (K_stepDown (by omega) h1 hs ((fr.1 52 (by decide) s).trans hup) (aLoc_fr fr (by decide) (by decide) hl) (mdOK_s hm (fr.1 2 (by decide) 0))) (fun c2 h2 => WP_some ?_)
      rw [aU_or0]
      exact h2
