/-! what is due behind what a leader hears, behind a sync, behind an alarm -/
def fA (a : AA) (s : Nat) : Prop := aS a 52 s = 1 ∧ WLg a s ∧ WCh a s ∧ WMk a s ∧ EX a s ∧ mdOK a 700 ∧ (∀ k ∈ aAk a, wfK k) ∧ ∀ e ∈ aLg a s, wfE (aAk a) e
def fM (a : AA) (s : Nat) : Prop := aS a 52 s = 1 ∧ aLoc a ∧ mdOK a 1 ∧ WLg a s ∧ WCh a s ∧ (¬ 300 ≤ aLast a s - aBase a s → pApp a s) ∧ aLearn (aS a 65 s) = aS a 65 s >>> 14
def fS (a : AA) (s : Nat) : Prop := aS a 52 s = 1 ∧ aS a 73 s = 3 ∧ WLg a s ∧ WLd a s
def fB (a : AA) (s : Nat) : Prop := aS a 52 s = 1 ∧ WLg a s ∧ (aS a 73 s = 3 → WLd a s)
def cnN (a : AA) (s : Nat) : Int32 := aCommon (aS a 65 s) (fun p => aS a 87 (7 * s + p)) 7
abbrev cnC (a : AA) (s : Nat) : Prop := aS a 75 s < cnN a s ∧ aTermAt a s (cnN a s) = aS a 53 s
def cn1 (a : AA) (s : Nat) : AA := if cnC a s then A_apply (aI a 75 s (cnN a s)) s else a
abbrev cn64 (a : AA) (s : Nat) : Prop := ¬ aS a 75 s < aS a 64 s ∧ ¬ aNewM (aS a 65 s) = 0 ∧ ¬ 300 ≤ aLast a s - aBase a s
theorem cn_e {a : AA} {s : Nat} : A_count a s = if cn64 (cn1 a s) s then A_sendAll (aMoveM (cn1 a s) s) s false else aMoveM (cn1 a s) s := by
  have e : A_count a s = cnT (cn1 a s) s := A_count_e
  rw [e]
  generalize cn1 a s = b
  unfold cnT aMoveM
  by_cases q1 : aS b 75 s < aS b 64 s
  · rw [if_pos q1, if_pos q1, if_neg (show ¬ cn64 b s from fun z => z.1 q1)]
  · rw [if_neg q1, if_neg q1]
    by_cases q2 : ¬ aNewM (aS b 65 s) = 0
    · rw [if_pos q2, if_pos q2]
      by_cases q3 : 300 ≤ aLast b s - aBase b s
      · rw [if_pos q3, if_pos q3, if_neg (show ¬ cn64 b s from fun z => z.2.2 q3)]
      · rw [if_neg q3, if_neg q3, if_pos (show cn64 b s from ⟨q1, q2, q3⟩)]
    · rw [if_neg q2, if_neg q2, if_neg (show ¬ cn64 b s from fun z => q2 z.2.1)]
/-- what must hold for counting -/
def cnF (a : AA) (s : Nat) : Prop := aS a 73 s = 3 ∧ WLg a s ∧ (∃ p, p < 7 ∧ aIn (aOldM (aS a 65 s)) p = true) ∧ (∀ p, p < 7 → 0 ≤ aS a 87 (7 * s + p)) ∧ (cnC a s → fA (aI a 75 s (cnN a s)) s) ∧ fM (cn1 a s) s ∧ (cn64 (cn1 a s) s → fS (aMoveM (cn1 a s) s) s)
theorem K_count0 {F : Nat} {c : CS} {a : AA} {s : Nat} {o : Option Nat} {H : List (Nat × Option AL)} {U : Nat → Int32} {N : Nat × Nat} {Q : CS → Prop} (hF : 400 ≤ F) (h : RC c a ((H, U), N)) (hs : s < 7) (hU : U s = 8) (f : cnF a s) (hH : H.length ≤ 5) (k : ∀ c', RC c' (A_count a s) ((H, aU U s 0), N) → WP (k_Server_settle_b106 F c' s o) Q) : WP (k_Server_settle_b45 F c s o) Q := by
  obtain ⟨hr, w, x9, x87, fa, fm, fs⟩ := f
  unfold k_Server_settle_b45
  refine due_do (b := 8) (v := 0) h hs hU (by decide) (by decide) (fun p z h => WP_if c0_eq (fun y => absurd y z) (fun _ => ?_))
  refine WP_call (K_countMatches (by omega) h hs hr w x9 x87) (fun c1 h => ?_)
  have h : RC c1 (if cnC a s then aI a 75 s (cnN a s) else a) ((H, if cnC a s then aU (aU U s 0) s ((aU U s 0) s ||| 16 ||| 32) else aU (aU U s 0) s ((aU U s 0) s ||| 32)), N) := h
  have e16 : aU (aU U s 0) s ((aU U s 0) s ||| 16 ||| 32) = aU U s 48 := by
    rw [aU_2, aU_U]
    rfl
  have e32 : aU (aU U s 0) s ((aU U s 0) s ||| 32) = aU U s 32 := by
    rw [aU_2, aU_U]
    rfl
  rw [e16, e32] at h
  rw [cn_e] at k
  have tail : ∀ c2, RC c2 (cn1 a s) ((H, aU U s 32), N) → WP (k_Server_settle_b79 F c2 s o) Q := by
    intro c2 h
    obtain ⟨m1, m2, m3, m4, m5, m6, m7⟩ := fm
    have hU : aU U s 32 s = 32 := aU_U
    unfold k_Server_settle_b79
    refine due_do (b := 32) (v := 0) h hs hU (by decide) (by decide) (fun p z h => WP_if c0_eq (fun y => absurd y z) (fun _ => ?_))
    rw [aU_2] at h
    refine WP_call (K_moveMembers (by omega) h hs m1 m2 m3 m4 m5 m6 m7) (fun c3 h => ?_)
    have h : RC c3 (aMoveM (cn1 a s) s) ((H, if cn64 (cn1 a s) s then aU (aU U s 0) s ((aU U s 0) s ||| 64) else aU U s 0), N) := h
    have e64 : aU (aU U s 0) s ((aU U s 0) s ||| 64) = aU U s 64 := by
      rw [aU_2, aU_U]
      rfl
    rw [e64] at h
    unfold k_Server_settle_b92
    by_cases q : cn64 (cn1 a s) s
    · rw [if_pos q] at h k
      obtain ⟨s1, s2, s3, s4⟩ := fs q
      have hU : aU U s 64 s = 64 := aU_U
      refine due_do (b := 64) (v := 0) h hs hU (by decide) (by decide) (fun p z h => WP_if c0_eq (fun y => absurd y z) (fun _ => ?_))
      refine WP_call (K_sendToAll (bt := false) (by omega) h hs s1 s2 s3 s4 hH) (fun c4 h => ?_)
      rw [aU_2] at h
      exact k c4 h
    · rw [if_neg q] at h k
      have hU : aU U s 0 s = 0 := aU_U
      refine due_no (b := 64) h hs hU (by decide) (by decide) (fun p z h => WP_if c0_eq (fun _ => ?_) (fun y => absurd z y))
      exact k p.2 h
  unfold k_Server_settle_b58
  by_cases q : cnC a s
  · rw [if_pos q, if_pos q] at h
    have e1 : cn1 a s = A_apply (aI a 75 s (cnN a s)) s := if_pos q
    have hU : aU U s 48 s = 48 := aU_U
    refine due_do (b := 16) (v := 32) h hs hU (by decide) (by decide) (fun p z h => WP_if c0_eq (fun y => absurd y z) (fun _ => ?_))
    obtain ⟨a1, a2, a3, a4, a5, a6, a7, a8⟩ := fa q
    refine K_applyAll hF h hs a1 a2 a3 a4 a5 a6 a7 a8 hH (fun c2 h => ?_)
    rw [aU_2] at h
    rw [← e1] at h
    exact tail c2 h
  · rw [if_neg q, if_neg q] at h
    have e1 : cn1 a s = a := if_neg q
    have hU : aU U s 32 s = 32 := aU_U
    refine due_no (b := 16) h hs hU (by decide) (by decide) (fun p z h => WP_if c0_eq (fun _ => ?_) (fun y => absurd z y))
    rw [← e1] at h
    exact tail p.2 h
theorem K_count384 {F : Nat} {c : CS} {a : AA} {s : Nat} {o : Option Nat} {H : List (Nat × Option AL)} {U : Nat → Int32} {N : Nat × Nat} {Q : CS → Prop} (hF : 400 ≤ F) (h : RC c a ((H, U), N)) (hs : s < 7) (hU : U s = 392) (f : cnF a s) (hH : H.length ≤ 5) (k : ∀ c', RC c' (A_count a s) ((H, aU U s 384), N) → WP (k_Server_settle_b106 F c' s o) Q) : WP (k_Server_settle_b45 F c s o) Q := by
  obtain ⟨hr, w, x9, x87, fa, fm, fs⟩ := f
  unfold k_Server_settle_b45
  refine due_do (b := 8) (v := 384) h hs hU (by decide) (by decide) (fun p z h => WP_if c0_eq (fun y => absurd y z) (fun _ => ?_))
  refine WP_call (K_countMatches (by omega) h hs hr w x9 x87) (fun c1 h => ?_)
  have h : RC c1 (if cnC a s then aI a 75 s (cnN a s) else a) ((H, if cnC a s then aU (aU U s 384) s ((aU U s 384) s ||| 16 ||| 32) else aU (aU U s 384) s ((aU U s 384) s ||| 32)), N) := h
  have e16 : aU (aU U s 384) s ((aU U s 384) s ||| 16 ||| 32) = aU U s 432 := by
    rw [aU_2, aU_U]
    rfl
  have e32 : aU (aU U s 384) s ((aU U s 384) s ||| 32) = aU U s 416 := by
    rw [aU_2, aU_U]
    rfl
  rw [e16, e32] at h
  rw [cn_e] at k
  have tail : ∀ c2, RC c2 (cn1 a s) ((H, aU U s 416), N) → WP (k_Server_settle_b79 F c2 s o) Q := by
    intro c2 h
    obtain ⟨m1, m2, m3, m4, m5, m6, m7⟩ := fm
    have hU : aU U s 416 s = 416 := aU_U
    unfold k_Server_settle_b79
    refine due_do (b := 32) (v := 384) h hs hU (by decide) (by decide) (fun p z h => WP_if c0_eq (fun y => absurd y z) (fun _ => ?_))
    rw [aU_2] at h
    refine WP_call (K_moveMembers (by omega) h hs m1 m2 m3 m4 m5 m6 m7) (fun c3 h => ?_)
    have h : RC c3 (aMoveM (cn1 a s) s) ((H, if cn64 (cn1 a s) s then aU (aU U s 384) s ((aU U s 384) s ||| 64) else aU U s 384), N) := h
    have e64 : aU (aU U s 384) s ((aU U s 384) s ||| 64) = aU U s 448 := by
      rw [aU_2, aU_U]
      rfl
    rw [e64] at h
    unfold k_Server_settle_b92
    by_cases q : cn64 (cn1 a s) s
    · rw [if_pos q] at h k
      obtain ⟨s1, s2, s3, s4⟩ := fs q
      have hU : aU U s 448 s = 448 := aU_U
      refine due_do (b := 64) (v := 384) h hs hU (by decide) (by decide) (fun p z h => WP_if c0_eq (fun y => absurd y z) (fun _ => ?_))
      refine WP_call (K_sendToAll (bt := false) (by omega) h hs s1 s2 s3 s4 hH) (fun c4 h => ?_)
      rw [aU_2] at h
      exact k c4 h
    · rw [if_neg q] at h k
      have hU : aU U s 384 s = 384 := aU_U
      refine due_no (b := 64) h hs hU (by decide) (by decide) (fun p z h => WP_if c0_eq (fun _ => ?_) (fun y => absurd z y))
      exact k p.2 h
  unfold k_Server_settle_b58
  by_cases q : cnC a s
  · rw [if_pos q, if_pos q] at h
    have e1 : cn1 a s = A_apply (aI a 75 s (cnN a s)) s := if_pos q
    have hU : aU U s 432 s = 432 := aU_U
    refine due_do (b := 16) (v := 416) h hs hU (by decide) (by decide) (fun p z h => WP_if c0_eq (fun y => absurd y z) (fun _ => ?_))
    obtain ⟨a1, a2, a3, a4, a5, a6, a7, a8⟩ := fa q
    refine K_applyAll hF h hs a1 a2 a3 a4 a5 a6 a7 a8 hH (fun c2 h => ?_)
    rw [aU_2] at h
    rw [← e1] at h
    exact tail c2 h
  · rw [if_neg q, if_neg q] at h
    have e1 : cn1 a s = a := if_neg q
    have hU : aU U s 416 s = 416 := aU_U
    refine due_no (b := 16) h hs hU (by decide) (by decide) (fun p z h => WP_if c0_eq (fun _ => ?_) (fun y => absurd z y))
    rw [← e1] at h
    exact tail p.2 h
/-- behind a sync of a leader -/
theorem K_settle8 {F : Nat} {c : CS} {a : AA} {s : Nat} {o : Option Nat} {H : List (Nat × Option AL)} {U : Nat → Int32} {N : Nat × Nat} (hF : 400 ≤ F) (h : RC c a ((H, U), N)) (hs : s < 7) (hU : U s = 8) (f : cnF a s) (hH : H.length ≤ 5) : WP (k_Server_settle F c s o) (fun c' => RC c' (A_count a s) ((H, aU U s 0), N)) := by
  unfold k_Server_settle k_Server_settle_b0
  refine due_no (b := 1) h hs hU (by decide) (by decide) (fun p z h => WP_if c0_eq (fun _ => ?_) (fun y => absurd z y))
  unfold k_Server_settle_b12
  refine due_no (b := 2) h hs hU (by decide) (by decide) (fun p z h => WP_if c0_eq (fun _ => ?_) (fun y => absurd z y))
  unfold k_Server_settle_b24
  refine due_no (b := 4) h hs hU (by decide) (by decide) (fun p z h => WP_if c0_eq (fun _ => ?_) (fun y => absurd z y))
  refine K_count0 hF h hs hU f hH (fun c1 h => ?_)
  have hU : aU U s 0 s = 0 := aU_U
  unfold k_Server_settle_b106
  refine due_no (b := 128) h hs hU (by decide) (by decide) (fun p z h => WP_if c0_eq (fun _ => ?_) (fun y => absurd z y))
  unfold k_Server_settle_b120
  refine due_no (b := 256) h hs hU (by decide) (by decide) (fun p z h => WP_if c0_eq (fun _ => ?_) (fun y => absurd z y))
  unfold k_Server_settle_b142
  refine due_no (b := 512) h hs hU (by decide) (by decide) (fun p z h => WP_if c0_eq (fun _ => ?_) (fun y => absurd z y))
  exact WP_some h
theorem hdT_e {a : AA} {s p : Nat} {l : AL} (hp : p < 7) (hf : l.1 2 = Int32.ofNat p) : hdT a s l = aBack (A_answerReads (A_count a s) s) s p (Int32.ofNat p) := by
  unfold hdT aBack
  dsimp only
  rw [hf, i_cl (by omega)]
/-- behind what a leader hears -/
theorem K_settle392 {F : Nat} {c : CS} {a : AA} {s ad j : Nat} {l : AL} {H : List (Nat × Option AL)} {U : Nat → Int32} {N : Nat × Nat} (hF : 400 ≤ F) (h : RC c a (((ad, some l) :: H, U), N)) (hs : s < 7) (hU : U s = 392) (f : cnF a s) (hp : j < 7) (hf : l.1 2 = Int32.ofNat j) (u1 : aS (A_count a s) 52 s = 1) (x1 : EX (A_count a s) s) (fb : fB (A_answerReads (A_count a s) s) s) (hH : H.length ≤ 4) : WP (k_Server_settle F c s (some ad)) (fun c' => RC c' (hdT a s l) (((ad, some l) :: H, aU U s 0), N)) := by
  rw [hdT_e hp hf]
  unfold k_Server_settle k_Server_settle_b0
  refine due_no (b := 1) h hs hU (by decide) (by decide) (fun p z h => WP_if c0_eq (fun _ => ?_) (fun y => absurd z y))
  unfold k_Server_settle_b12
  refine due_no (b := 2) h hs hU (by decide) (by decide) (fun p z h => WP_if c0_eq (fun _ => ?_) (fun y => absurd z y))
  unfold k_Server_settle_b24
  refine due_no (b := 4) h hs hU (by decide) (by decide) (fun p z h => WP_if c0_eq (fun _ => ?_) (fun y => absurd z y))
  refine K_count384 hF h hs hU f (by simpa using hH) (fun c1 h => ?_)
  generalize A_count a s = b at h u1 x1 fb ⊢
  have hU : aU U s 384 s = 384 := aU_U
  unfold k_Server_settle_b106
  refine due_do (b := 128) (v := 256) h hs hU (by decide) (by decide) (fun p z h => WP_if c0_eq (fun y => absurd y z) (fun _ => ?_))
  obtain ⟨y1, y2, y3, y4, y5, y6, y7, y8, y9, y10, y11⟩ := id x1
  refine WP_call (K_answerReads (by omega) h hs u1 y3 y1 y4 y5 (fun _ => y9.1) (fun hr q hq => (y10 hr q hq).2.1) (by simpa using hH)) (fun c2 h => ?_)
  rw [aU_2] at h
  have hU : aU U s 256 s = 256 := aU_U
  unfold k_Server_settle_b120
  refine due_do (b := 256) (v := 0) h hs hU (by decide) (by decide) (fun p z h => WP_if c0_eq (fun y => absurd y z) (fun _ => ?_))
  rw [if_neg (by simp)]
  refine WP_b ?_
  have f2 : cI p.2 8 ad 2 0 = Int32.ofNat j := ((RC_hand h List.mem_cons_self).1 2 (by decide)).trans hf
  rw [f2]
  rw [aU_2] at h
  refine WP_call (K_sendBack (by omega) h hs hp fb.1 fb.2.1 fb.2.2 (by simpa using hH)) (fun c3 h => ?_)
  have hU : aU U s 0 s = 0 := aU_U
  unfold k_Server_settle_b142
  refine due_no (b := 512) h hs hU (by decide) (by decide) (fun p z h => WP_if c0_eq (fun _ => ?_) (fun y => absurd z y))
  exact WP_some h
/-- the state of a leader that beats, ahead of what it sends -/
def bt1 (a : AA) (s : Nat) : AA := aBeat3 a (if 0 ≤ aS a 80 s ∧ 50 < aNow a - aS a 81 s then aI a 80 s (-1) else a) s
/-- behind an alarm of a leader -/
theorem K_beatAll {F : Nat} {c : CS} {a : AA} {s : Nat} {o : Option Nat} {H : List (Nat × Option AL)} {U : Nat → Int32} {N : Nat × Nat} (hF : 400 ≤ F) (h : RC c a ((H, U), N)) (hs : s < 7) (hU : U s = 4) (hr : aS a 73 s = 3) (hm : mdOK a 0) (h80 : aS a 80 s = -1 ∨ 0 ≤ aS a 80 s) (fs : fS (bt1 a s) s) (x1 : EX (A_sendAll (bt1 a s) s true) s) (hH : H.length ≤ 5) : WP (k_Server_settle_b24 F c s o) (fun c' => RC c' (A_beat a s) ((H, aU U s 0), N)) := by
  have eA : A_beat a s = A_answerReads (A_sendAll (bt1 a s) s true) s := A_beat_e3
  rw [eA]
  unfold k_Server_settle_b24
  refine due_do (b := 4) (v := 0) h hs hU (by decide) (by decide) (fun p z h => WP_if c0_eq (fun y => absurd y z) (fun _ => ?_))
  refine WP_call (K_beat (by omega) h hs hr hm h80) (fun c1 h => ?_)
  have h : RC c1 (bt1 a s) ((H, aU U s 0), N) := h
  obtain ⟨s1, s2, s3, s4⟩ := fs
  refine WP_call (K_sendToAll (bt := true) (by omega) h hs s1 s2 s3 s4 hH) (fun c2 h => ?_)
  have u2 : aS (A_sendAll (bt1 a s) s true) 52 s = 1 := (AFr_sendAll.1 52 (by decide) s).trans s1
  obtain ⟨y1, y2, y3, y4, y5, y6, y7, y8, y9, y10, y11⟩ := id x1
  refine WP_call (K_answerReads (by omega) h hs u2 y3 y1 y4 y5 (fun _ => y9.1) (fun hr q hq => (y10 hr q hq).2.1) hH) (fun c3 h => ?_)
  have hU : aU U s 0 s = 0 := aU_U
  unfold k_Server_settle_b45
  refine due_no (b := 8) h hs hU (by decide) (by decide) (fun p z h => WP_if c0_eq (fun _ => ?_) (fun y => absurd z y))
  unfold k_Server_settle_b58
  refine due_no (b := 16) h hs hU (by decide) (by decide) (fun p z h => WP_if c0_eq (fun _ => ?_) (fun y => absurd z y))
  unfold k_Server_settle_b79
  refine due_no (b := 32) h hs hU (by decide) (by decide) (fun p z h => WP_if c0_eq (fun _ => ?_) (fun y => absurd z y))
  unfold k_Server_settle_b92
  refine due_no (b := 64) h hs hU (by decide) (by decide) (fun p z h => WP_if c0_eq (fun _ => ?_) (fun y => absurd z y))
  unfold k_Server_settle_b106
  refine due_no (b := 128) h hs hU (by decide) (by decide) (fun p z h => WP_if c0_eq (fun _ => ?_) (fun y => absurd z y))
  unfold k_Server_settle_b120
  refine due_no (b := 256) h hs hU (by decide) (by decide) (fun p z h => WP_if c0_eq (fun _ => ?_) (fun y => absurd z y))
  unfold k_Server_settle_b142
  refine due_no (b := 512) h hs hU (by decide) (by decide) (fun p z h => WP_if c0_eq (fun _ => ?_) (fun y => absurd z y))
  exact WP_some h
theorem K_settle4 {F : Nat} {c : CS} {a : AA} {s : Nat} {o : Option Nat} {H : List (Nat × Option AL)} {U : Nat → Int32} {N : Nat × Nat} (hF : 400 ≤ F) (h : RC c a ((H, U), N)) (hs : s < 7) (hU : U s = 4) (hr : aS a 73 s = 3) (hm : mdOK a 0) (h80 : aS a 80 s = -1 ∨ 0 ≤ aS a 80 s) (fs : fS (bt1 a s) s) (x1 : EX (A_sendAll (bt1 a s) s true) s) (hH : H.length ≤ 5) : WP (k_Server_settle F c s o) (fun c' => RC c' (A_beat a s) ((H, aU U s 0), N)) := by
  unfold k_Server_settle k_Server_settle_b0
  refine due_no (b := 1) h hs hU (by decide) (by decide) (fun p z h => WP_if c0_eq (fun _ => ?_) (fun y => absurd z y))
  unfold k_Server_settle_b12
  refine due_no (b := 2) h hs hU (by decide) (by decide) (fun p z h => WP_if c0_eq (fun _ => ?_) (fun y => absurd z y))
  exact K_beatAll hF h hs hU hr hm h80 fs x1 hH
theorem lead_e {a : AA} {s : Nat} : A_lead a s = if 300 ≤ aLast a s - aBase a s then A_stepDown a s (aS a 53 s) (-1) else A_beat (A_append (aLed a s) s (aS a 53 s, 0, 0, 0, 0, -1)) s := rfl
/-- behind an election that was won -/
theorem K_settle2 {F : Nat} {c : CS} {a : AA} {s : Nat} {o : Option Nat} {H : List (Nat × Option AL)} {U : Nat → Int32} {N : Nat × Nat} (hF : 400 ≤ F) (h : RC c a ((H, U), N)) (hs : s < 7) (hU : U s = 2) (fm : fM a s)
    (fb : ¬ 300 ≤ aLast a s - aBase a s → mdOK (aTakeLead a s) 0 ∧ aS (aTakeLead a s) 73 s = 3 ∧ (aS (aTakeLead a s) 80 s = -1 ∨ 0 ≤ aS (aTakeLead a s) 80 s) ∧ fS (bt1 (aTakeLead a s) s) s ∧ EX (A_sendAll (bt1 (aTakeLead a s) s) s true) s) (hH : H.length ≤ 5) : WP (k_Server_settle F c s o) (fun c' => RC c' (A_lead a s) ((H, aU U s 0), N)) := by
  obtain ⟨m1, m2, m3, m4, m5, m6, m7⟩ := fm
  rw [lead_e]
  unfold k_Server_settle k_Server_settle_b0
  refine due_no (b := 1) h hs hU (by decide) (by decide) (fun p z h => WP_if c0_eq (fun _ => ?_) (fun y => absurd z y))
  unfold k_Server_settle_b12
  refine due_do (b := 2) (v := 0) h hs hU (by decide) (by decide) (fun p z h => WP_if c0_eq (fun y => absurd y z) (fun _ => ?_))
  refine WP_call (K_takeLead (by omega) h hs m1 m2 m3 m4 m5 m6) (fun c1 h => ?_)
  by_cases q : 300 ≤ aLast a s - aBase a s
  · rw [if_pos q] at h ⊢
    have e : aTakeLead a s = A_stepDown a s (aS a 53 s) (-1) := if_pos q
    rw [e] at h
    have hU : aU U s 0 s = 0 := aU_U
    unfold k_Server_settle_b24
    refine due_no (b := 4) h hs hU (by decide) (by decide) (fun p z h => WP_if c0_eq (fun _ => ?_) (fun y => absurd z y))
    unfold k_Server_settle_b45
    refine due_no (b := 8) h hs hU (by decide) (by decide) (fun p z h => WP_if c0_eq (fun _ => ?_) (fun y => absurd z y))
    unfold k_Server_settle_b58
    refine due_no (b := 16) h hs hU (by decide) (by decide) (fun p z h => WP_if c0_eq (fun _ => ?_) (fun y => absurd z y))
    unfold k_Server_settle_b79
    refine due_no (b := 32) h hs hU (by decide) (by decide) (fun p z h => WP_if c0_eq (fun _ => ?_) (fun y => absurd z y))
    unfold k_Server_settle_b92
    refine due_no (b := 64) h hs hU (by decide) (by decide) (fun p z h => WP_if c0_eq (fun _ => ?_) (fun y => absurd z y))
    unfold k_Server_settle_b106
    refine due_no (b := 128) h hs hU (by decide) (by decide) (fun p z h => WP_if c0_eq (fun _ => ?_) (fun y => absurd z y))
    unfold k_Server_settle_b120
    refine due_no (b := 256) h hs hU (by decide) (by decide) (fun p z h => WP_if c0_eq (fun _ => ?_) (fun y => absurd z y))
    unfold k_Server_settle_b142
    refine due_no (b := 512) h hs hU (by decide) (by decide) (fun p z h => WP_if c0_eq (fun _ => ?_) (fun y => absurd z y))
    exact WP_some h
  · rw [if_neg q] at h ⊢
    have e : aTakeLead a s = A_append (aLed a s) s (aS a 53 s, 0, 0, 0, 0, -1) := if_neg q
    obtain ⟨b1, b2, b3, b4, b5⟩ := fb q
    rw [← e]
    have e4 : aU (aU U s 0) s ((aU U s 0) s ||| 4) = aU U s 4 := by
      rw [aU_2, aU_U]
      rfl
    rw [e4] at h
    refine WP_mono (K_beatAll hF h hs aU_U b2 b1 b3 b4 b5 hH) (fun c' h' => ?_)
    rw [aU_2] at h'
    exact h'
