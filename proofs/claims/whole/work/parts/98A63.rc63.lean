/-! a held request and what is sent; what is due, one after another -/
def hq (X : AA) (s : Nat) (R : List AQ) (n : Int32) : AA := aI (aRqS X s R) 151 s n
theorem hq_S {X : AA} {s f i : Nat} {R : List AQ} {n : Int32} (h : f ≠ 151) : aS (hq X s R n) f i = aS X f i := aS_If (a := aRqS X s R) h
theorem hq_I {X : AA} {s f i : Nat} {R : List AQ} {n v : Int32} (h : f ≠ 151) : aI (hq X s R n) f i v = hq (aI X f i v) s R n := by
  unfold hq
  have e : aRqS (aI X f i v) s R = aI (aRqS X s R) f i v := rfl
  rw [e]
  exact aI_comm (fun z => h z.1.symm)
theorem hq_add {X : AA} {s f i : Nat} {R : List AQ} {n v : Int32} (h : f ≠ 151) : aAdd (hq X s R n) f i v = hq (aAdd X f i v) s R n := by
  unfold aAdd
  rw [hq_S h, hq_I h]
theorem hq_fly {X : AA} {s : Nat} {R : List AQ} {n : Int32} {l : AL} {t : Int32} : A_fly (hq X s R n) l t = hq (A_fly X l t) s R n := by
  unfold A_fly
  by_cases q : 128 ≤ (aWay X).length
  · rw [if_pos q, if_pos (show 128 ≤ (aWay (hq X s R n)).length from q)]
    exact hq_add (by decide)
  · rw [if_neg q, if_neg (show ¬ 128 ≤ (aWay (hq X s R n)).length from q), hq_add (by decide), hq_add (by decide), hq_S (by decide)]
    rfl
theorem hq_out {X : AA} {s : Nat} {R : List AQ} {n : Int32} {l : AL} : A_sendOut (hq X s R n) l = hq (A_sendOut X l) s R n := by
  have e : ∀ (Y : AA) (f i : Nat), f ≠ 151 → aS (hq Y s R n) f i = aS Y f i := fun Y f i hf => hq_S hf
  have ep : A_parted (hq X s R n) (l.1 2) (l.1 3) = A_parted X (l.1 2) (l.1 3) := by
    unfold A_parted
    rw [e X 24 0 (by decide)]
  have d : ∀ (Y : AA) (m : Int32), A_draw (hq Y s R n) m = ((A_draw Y m).1, hq (A_draw Y m).2 s R n) := fun _ _ => rfl
  have en : aNow (hq X s R n) = aNow X := e X 1 0 (by decide)
  unfold A_sendOut
  dsimp only
  rw [ep, e X 25 0 (by decide), e X 26 0 (by decide), e X 27 0 (by decide), e X 23 _ (by decide), en]
  by_cases q1 : A_parted X (l.1 2) (l.1 3) = true
  · rw [if_pos q1, if_pos q1]
    exact hq_add (by decide)
  · rw [if_neg q1, if_neg q1]
    by_cases q2 : aS X 25 0 = 0 ∧ aS X 26 0 = 0 ∧ aS X 27 0 = 0
    · rw [if_pos q2, if_pos q2]
      exact hq_fly
    · rw [if_neg q2, if_neg q2]
      simp only [d]
      by_cases q3 : (A_draw X 1000).1 < aS X 25 0
      · rw [if_pos q3, if_pos q3]
        exact hq_add (by decide)
      · rw [if_neg q3, if_neg q3]
        simp only [hq_fly, d]
        by_cases q4 : (A_draw (A_draw X 1000).2 1000).1 < aS X 26 0
        · rw [if_pos q4, if_pos q4]
        · rw [if_neg q4, if_neg q4]
theorem hq_post {X : AA} {s t : Nat} {R : List AQ} {n : Int32} {l : AL} : A_post (hq X s R n) t l = hq (A_post X t l) s R n := by
  unfold A_post
  rw [hq_S (f := 71) (by decide)]
  by_cases q : aS X 71 t = 0
  · rw [if_pos q, if_pos q]
    exact hq_out
  · rw [if_neg q, if_neg q]
    by_cases z : (aWt X t).length < 32
    · rw [if_pos z, if_pos (show (aWt (hq X s R n) t).length < 32 from z)]
      rfl
    · rw [if_neg z, if_neg (show ¬ (aWt (hq X s R n) t).length < 32 from z)]
theorem hq_term {X : AA} {s t : Nat} {R : List AQ} {n m : Int32} : aTermAt (hq X s R n) t m = aTermAt X t m := by
  have e : ∀ (f i : Nat), f ≠ 151 → aS (hq X s R n) f i = aS X f i := fun f i hf => hq_S hf
  have el : aLg (hq X s R n) = aLg X := rfl
  unfold aTermAt aHas aEnt aLast aBase
  rw [e 55 t (by decide), e 56 t (by decide), e 57 t (by decide), el]
theorem hq_ents {X : AA} {s t p k : Nat} {R : List AQ} {n m : Int32} : aEntries (hq X s R n) t p m k = aEntries X t p m k := by
  have e : ∀ (f i : Nat), f ≠ 151 → aS (hq X s R n) f i = aS X f i := fun f i hf => hq_S hf
  have el : aLg (hq X s R n) = aLg X := rfl
  unfold aEntries
  dsimp only
  unfold aRound aBase
  rw [e 53 t (by decide), e 75 t (by decide), e 83 t (by decide), e 55 t (by decide), hq_term, el]
theorem hq_piece {X : AA} {s t p : Nat} {R : List AQ} {n : Int32} : aPiece (hq X s R n) t p = aPiece X t p := by
  have e : ∀ (f i : Nat), f ≠ 151 → aS (hq X s R n) f i = aS X f i := fun f i hf => hq_S hf
  have el : aSh (hq X s R n) = aSh X := rfl
  unfold aPiece
  dsimp only
  unfold aRound aBase
  rw [e 53 t (by decide), e 90 _ (by decide), e 57 t (by decide), e 58 t (by decide), e 67 t (by decide), e 83 t (by decide), e 55 t (by decide), el]
theorem hq_stream {s t p : Nat} {R : List AQ} {n : Int32} : ∀ (m : Nat) (X : AA), aStream t p m (hq X s R n) = (hq (aStream t p m X).1 s R n, (aStream t p m X).2) := by
  intro m
  induction m with
  | zero => exact fun X => rfl
  | succ m ih =>
    intro X
    have e : ∀ (f i : Nat), f ≠ 151 → aS (hq X s R n) f i = aS X f i := fun f i hf => hq_S hf
    unfold aStream
    dsimp only
    unfold aMany aLast
    rw [e 86 _ (by decide), e 88 _ (by decide), e 89 _ (by decide), e 56 _ (by decide)]
    by_cases q : aS X 86 (7 * t + p) ≤ aS X 56 t ∧ aS X 88 (7 * t + p) < (if aS X 89 (7 * t + p) = 0 then 4 else 1)
    · rw [if_pos q, if_pos q, hq_add (by decide), hq_add (by decide), hq_ents, hq_post, ih]
    · rw [if_neg q, if_neg q]
theorem hq_send {X : AA} {s t p : Nat} {bt : Bool} {R : List AQ} {n : Int32} : A_send (hq X s R n) t p bt = hq (A_send X t p bt) s R n := by
  have e : ∀ (Y : AA) (f i : Nat), f ≠ 151 → aS (hq Y s R n) f i = aS Y f i := fun Y f i hf => hq_S hf
  unfold A_send
  dsimp only
  unfold aBase
  rw [e X 86 _ (by decide), e X 55 _ (by decide), e X 88 _ (by decide), hq_stream]
  dsimp only
  by_cases q : aS X 86 (7 * t + p) ≤ aS X 55 t
  · rw [if_pos q, if_pos q]
    by_cases z : 0 < aS X 88 (7 * t + p)
    · rw [if_pos z, if_pos z]
    · rw [if_neg z, if_neg z, hq_I (by decide), hq_piece, hq_post]
  · rw [if_neg q, if_neg q]
    by_cases z : (!(aStream t p 4 X).2 && bt) = true
    · rw [if_pos z, if_pos z, e _ 86 _ (by decide), hq_ents, hq_post]
    · rw [if_neg z, if_neg z]
theorem hq_all {s t : Nat} {bt : Bool} {R : List AQ} {n : Int32} {X : AA} : ∀ p, aSendAll t bt (hq X s R n) p = hq (aSendAll t bt X p) s R n := by
  intro p
  induction p with
  | zero => rfl
  | succ p ih =>
    have ep : ∀ Y : AA, aPeer (hq Y s R n) t p = aPeer Y t p := by
      intro Y
      unfold aPeer aVoters
      rw [hq_S (f := 65) (by decide)]
    unfold aSendAll
    dsimp only
    rw [ih, ep]
    by_cases q : aPeer (aSendAll t bt X p) t p = true
    · rw [if_pos q, if_pos q, hq_send]
    · rw [if_neg q, if_neg q]
theorem hold_hq {a : AA} {s : Nat} {l : AL} {x y : Int32} : aHold a s l x y = hq a s ((aRq a s).filter (fun z => !decide (z 0 = aS a 151 s - 32)) ++ [fun j => if j = 0 then aS a 151 s else if j = 1 then l.1 2 else if j = 2 then l.1 5 else if j = 3 then l.1 16 else if j = 4 then x else if j = 5 then aS a 53 s else y]) (aS a 151 s + 1) := rfl
/-- first held, then sent to all -/
theorem hold_all {a : AA} {s : Nat} {bt : Bool} {l : AL} {y : Int32} : A_sendAll (aHold a s l (aLast a s) y) s bt = aHold (A_sendAll a s bt) s l (aLast a s) y := by
  have fr := @AFr_sendAll a s bt
  rw [hold_hq, hold_hq, fr.1 151 (by decide), fr.1 53 (by decide), fr.2.2.2.2.2.2.2.2.2.2.1 (by decide)]
  unfold A_sendAll
  exact hq_all 7
theorem ask_e {a : AA} {s : Nat} {l : AL} : A_asked a s l = if aAskN a s l then A_sendAll (aAsk0 a s l) s false else aAsk0 a s l := by
  unfold A_asked aAsk0
  dsimp only
  by_cases q1 : ¬ aS a 73 s = 3 ∨ 0 ≤ aS a 80 s
  · rw [if_pos q1, if_pos q1, if_neg (show ¬ aAskN a s l from fun z => q1.elim (fun k => k z.1) (fun k => z.2.1 k))]
    rfl
  · rw [if_neg q1, if_neg q1]
    have r : aS a 73 s = 3 := Classical.not_not.mp (fun k => q1 (Or.inl k))
    have z : ¬ 0 ≤ aS a 80 s := fun k => q1 (Or.inr k)
    by_cases q2 : l.1 6 = 2
    · rw [if_pos q2, if_pos q2, if_neg (show ¬ aAskN a s l from fun z => z.2.2.1 q2)]
    · rw [if_neg q2, if_neg q2]
      by_cases q3 : 200 ≤ aLast a s - aBase a s
      · rw [if_pos q3, if_pos q3, if_neg (show ¬ aAskN a s l from fun z => z.2.2.2 q3)]
        rfl
      · rw [if_neg q3, if_neg q3, if_pos (show aAskN a s l from ⟨r, z, q2, q3⟩), hold_all]
        rfl
/-- what is not due is passed over -/
theorem due_no {c : CS} {a : AA} {s : Nat} {b u : Int32} {H : List (Nat × Option AL)} {U : Nat → Int32} {N : Nat × Nat} {f : Int32 × CS → Option CS} {Q : CS → Prop} (h : RC c a ((H, U), N)) (hs : s < 7) (hU : U s = u) (hb : u &&& b = 0) (hv : u &&& (b ^^^ -1) = u) (k : ∀ p : Int32 × CS, p.1 = 0 → RC p.2 a ((H, U), N) → WP (f p) Q) : WP ((k_Server_takeDue c s b).bind f) Q := by
  refine WP_call (K_takeDue h hs) (fun p hp => ?_)
  obtain ⟨p1, p2⟩ := hp
  rw [hU, hv, ← hU, aU_self] at p2
  rw [hU, if_pos hb] at p1
  exact k p p1 p2
theorem due_do {c : CS} {a : AA} {s : Nat} {b u v : Int32} {H : List (Nat × Option AL)} {U : Nat → Int32} {N : Nat × Nat} {f : Int32 × CS → Option CS} {Q : CS → Prop} (h : RC c a ((H, U), N)) (hs : s < 7) (hU : U s = u) (hb : ¬ u &&& b = 0) (hv : u &&& (b ^^^ -1) = v) (k : ∀ p : Int32 × CS, ¬ p.1 = 0 → RC p.2 a ((H, aU U s v), N) → WP (f p) Q) : WP ((k_Server_takeDue c s b).bind f) Q := by
  refine WP_call (K_takeDue h hs) (fun p hp => ?_)
  obtain ⟨p1, p2⟩ := hp
  rw [hU, hv] at p2
  rw [hU, if_neg hb] at p1
  exact k p (by rw [p1]; decide) p2
theorem aU_U {s : Nat} {U : Nat → Int32} {v : Int32} : aU U s v s = v := if_pos rfl
/-- nothing is due -/
theorem K_settle0 {F : Nat} {c : CS} {a : AA} {s : Nat} {o : Option Nat} {H : List (Nat × Option AL)} {U : Nat → Int32} {N : Nat × Nat} (h : RC c a ((H, U), N)) (hs : s < 7) (hU : U s = 0) : WP (k_Server_settle F c s o) (fun c' => RC c' a ((H, U), N)) := by
  unfold k_Server_settle k_Server_settle_b0
  refine due_no (b := 1) h hs hU (by decide) (by decide) (fun p z h => WP_if c0_eq (fun _ => ?_) (fun y => absurd z y))
  unfold k_Server_settle_b12
  refine due_no (b := 2) h hs hU (by decide) (by decide) (fun p z h => WP_if c0_eq (fun _ => ?_) (fun y => absurd z y))
  unfold k_Server_settle_b24
  refine due_no (b := 4) h hs hU (by decide) (by decide) (fun p z h => WP_if c0_eq (fun _ => ?_) (fun y => absurd z y))
  unfold k_Server_settle_b45
  refine due_no (b := 8) h hs hU (by decide) (by decide) (fun p z h => WP_if c0_eq (fun _ => ?_) (fun y => absurd z y))
  unfold k_Server_settle_b58
  refine due_no (b := 16) h hs hU (by decide) (by decide) (fun p z h => WP_if c0_eq (fun _ => ?_) (fun y => absurd z y))
  unfold k_Server_settle_b79
  refine due_no (b := 32) h hs hU (by decide) (by decide) (fun p z h => WP_if c0_eq (fun _ => ?_) (fun y => absurd z y))
  unfold k_Server_settle_b92
  refine due_no (b := 64) h hs hU (by decide) (by decide) (fun p z h => WP_if c0_eq (fun _ => ?_) (fun y => absurd z y))
  unfold k_Server_settle_b106
  refine due_no (b := 128) h hs hU (by decide) (by decide) (fun p z h => WP_if c0_eq (fun _ => ?_) (fun y => absurd z y))
  unfold k_Server_settle_b120
  refine due_no (b := 256) h hs hU (by decide) (by decide) (fun p z h => WP_if c0_eq (fun _ => ?_) (fun y => absurd z y))
  unfold k_Server_settle_b142
  refine due_no (b := 512) h hs hU (by decide) (by decide) (fun p z h => WP_if c0_eq (fun _ => ?_) (fun y => absurd z y))
  exact WP_some h
/-- behind what is to be sent to all nothing is due -/
theorem K_settle64 {F : Nat} {c : CS} {a : AA} {s : Nat} {o : Option Nat} {H : List (Nat × Option AL)} {U : Nat → Int32} {N : Nat × Nat} (hF : 130 ≤ F) (h : RC c a ((H, U), N)) (hs : s < 7) (hU : U s = 64) (hu : aS a 52 s = 1) (hr : aS a 73 s = 3) (w : WLg a s) (wl : WLd a s) (hH : H.length ≤ 5) : WP (k_Server_settle F c s o) (fun c' => RC c' (A_sendAll a s false) ((H, aU U s 0), N)) := by
  unfold k_Server_settle k_Server_settle_b0
  refine due_no (b := 1) h hs hU (by decide) (by decide) (fun p z h => WP_if c0_eq (fun _ => ?_) (fun y => absurd z y))
  unfold k_Server_settle_b12
  refine due_no (b := 2) h hs hU (by decide) (by decide) (fun p z h => WP_if c0_eq (fun _ => ?_) (fun y => absurd z y))
  unfold k_Server_settle_b24
  refine due_no (b := 4) h hs hU (by decide) (by decide) (fun p z h => WP_if c0_eq (fun _ => ?_) (fun y => absurd z y))
  unfold k_Server_settle_b45
  refine due_no (b := 8) h hs hU (by decide) (by decide) (fun p z h => WP_if c0_eq (fun _ => ?_) (fun y => absurd z y))
  unfold k_Server_settle_b58
  refine due_no (b := 16) h hs hU (by decide) (by decide) (fun p z h => WP_if c0_eq (fun _ => ?_) (fun y => absurd z y))
  unfold k_Server_settle_b79
  refine due_no (b := 32) h hs hU (by decide) (by decide) (fun p z h => WP_if c0_eq (fun _ => ?_) (fun y => absurd z y))
  unfold k_Server_settle_b92
  refine due_do (b := 64) (v := 0) h hs hU (by decide) (by decide) (fun p z h => WP_if c0_eq (fun y => absurd y z) (fun _ => ?_))
  refine WP_call (K_sendToAll (bt := false) hF h hs hu hr w wl hH) (fun c8 h => ?_)
  have hU : aU U s 0 s = 0 := aU_U
  unfold k_Server_settle_b106
  refine due_no (b := 128) h hs hU (by decide) (by decide) (fun p z h => WP_if c0_eq (fun _ => ?_) (fun y => absurd z y))
  unfold k_Server_settle_b120
  refine due_no (b := 256) h hs hU (by decide) (by decide) (fun p z h => WP_if c0_eq (fun _ => ?_) (fun y => absurd z y))
  unfold k_Server_settle_b142
  refine due_no (b := 512) h hs hU (by decide) (by decide) (fun p z h => WP_if c0_eq (fun _ => ?_) (fun y => absurd z y))
  exact WP_some h
