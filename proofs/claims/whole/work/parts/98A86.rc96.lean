/-! paths of the greater methods -/
theorem inR_p : ∀ p, p < 7 → aInR (Int32.ofNat p) 0 6 = true := by decide
theorem inR_m : ∀ p, p < 7 → aInR (Int32.ofNat p) (-1) 6 = true := by decide
theorem inR_0 {x : Int32} (h : aInR x (-1) 6 = true) (h0 : 0 ≤ x) : aInR x 0 6 = true := by
  unfold aInR at h ⊢
  rw [Bool.and_eq_true_iff, decide_eq_true_eq, decide_eq_true_eq] at h ⊢
  exact ⟨h0, h.2⟩
theorem inR_1 {x : Int32} (h : aInR x 0 6 = true) : aInR x (-1) 6 = true := by
  unfold aInR at h ⊢
  rw [Bool.and_eq_true_iff, decide_eq_true_eq, decide_eq_true_eq] at h ⊢
  refine ⟨?_, h.2⟩
  have h1 := h.1
  rw [Int32.le_iff_toInt_le] at h1 ⊢
  rw [i_0] at h1
  rw [show (-1 : Int32).toInt = -1 by decide]
  omega
theorem w02 {q : Prop} [Decidable q] : ¬ (if q then (0 : Int32) else 2) = 1 := by
  split <;> decide
/-- whom a letter may go to -/
def toOK (x : Int32) : Prop := aInR x 0 6 = true
section PA1
variable {s k j : Nat} {a b b' c : AA}
theorem Pa_stepDown {t l : Int32} (h : Ph s (sL s) a) (hl : aInR l (-1) 6 = true) : Pa s (sL s) 1 a (A_stepDown a s t l) := by
  have h1 : Pa s (sL s) 0 a (if aS a 53 s < t then A_writeSlot (aI (aI a 53 s t) 54 s (-1)) s else a) := Pa_if (fun _ => Pa_0 (Pa_n (by decide) (Pa_nn (by decide))) (Pa_writeSlot (Pa_H (P := sL s) (Pa_n (by decide) (Pa_nn (by decide))) h))) (fun _ => Pa.nil)
  unfold A_stepDown
  dsimp only
  refine Pa_n74 hl (Pa_n (by decide) (Pa_if (fun _ => ?_) (fun _ => Pa.wk h1 (by omega))))
  exact Pa_n80 (by decide) (Pa_0 (Pa_d h1) (Pa.rq (fun q hq => absurd hq List.not_mem_nil)))
theorem Pa_askVoters {kd t : Int32} (hk : ¬ kd = 10 ∧ ¬ kd = 11) : ∀ n, n ≤ 7 → Pa s (sL s) 0 a (aAskVoters a s kd t n) := by
  intro n
  induction n with
  | zero => exact fun _ => Pa.nil
  | succ n ih =>
    intro hn
    refine Pa_0 (ih (by omega)) ?_
    show Pa s (sL s) 0 (aAskVoters a s kd t n) (aAskOne (aAskVoters a s kd t n) s kd t n)
    unfold aAskOne
    exact Pa_if (fun _ => Pa_post ⟨rfl, Or.inl (inR_p n (by omega)), hk.1, fun z => absurd z hk.2⟩) (fun _ => Pa.nil)
theorem Pa_campaign (h : Ph s (sL s) a) (hs : s < 7) : Pa s (sL s) 1 a (A_campaign a s) := by
  have h1 : Pa s (sL s) 0 a (aI (aAdd (aI (aI a 73 s 2) 74 s (-1)) 53 s 1) 54 s (Int32.ofNat s)) := Pa_n (by decide) (Pa_n (by decide) (Pa_n74 (by decide) (Pa_nn (by decide))))
  unfold A_campaign
  dsimp only
  exact Pa_0 (Pa_d (Pa_n (by decide) (Pa_0 h1 (Pa_writeSlot (Pa_H h1 h))))) (Pa_askVoters (by decide) 7 (by omega))
theorem Pa_entries {p : Nat} {f : Int32} {n : Nat} (hp : p < 7) : sL s (aEntries a s p f n) := ⟨rfl, Or.inl (inR_p p hp), (by decide : ¬ (5 : Int32) = 10), fun z => absurd z (by decide : ¬ (5 : Int32) = 11)⟩
theorem Pa_piece {p : Nat} (hp : p < 7) : sL s (aPiece a s p) := ⟨rfl, Or.inl (inR_p p hp), (by decide : ¬ (7 : Int32) = 10), fun z => absurd z (by decide : ¬ (7 : Int32) = 11)⟩
theorem Pa_stream {p : Nat} (hp : p < 7) : ∀ (n : Nat) (a : AA), Pa s (sL s) 0 a (aStream s p n a).1 := by
  intro n
  induction n with
  | zero => exact fun a => Pa.nil
  | succ n ih =>
    intro a
    unfold aStream
    dsimp only
    by_cases q : aS a 86 (7 * s + p) ≤ aLast a s ∧ aS a 88 (7 * s + p) < (if aS a 89 (7 * s + p) = 0 then 4 else 1)
    · rw [if_pos q]
      exact Pa_0 (Pa_0 (Pa_nq (by decide) hp (Pa.nuq (by decide) hp)) (Pa_post (Pa_entries hp))) (ih _)
    · rw [if_neg q]
      exact Pa.nil
theorem Pa_send {p : Nat} {bt : Bool} (hp : p < 7) : Pa s (sL s) 0 a (A_send a s p bt) := by
  unfold A_send
  dsimp only
  refine Pa_if (fun _ => Pa_if (fun _ => Pa.nil) (fun _ => ?_)) (fun _ => Pa_if (fun _ => ?_) (fun _ => Pa_stream hp 4 a))
  · exact Pa_0 (Pa.nuq (by decide) hp) (Pa_post (Pa_piece hp))
  · exact Pa_0 (Pa_stream hp 4 a) (Pa_post (Pa_entries hp))
theorem Pa_sendAllN {bt : Bool} : ∀ n, n ≤ 7 → Pa s (sL s) 0 a (aSendAll s bt a n) := by
  intro n
  induction n with
  | zero => exact fun _ => Pa.nil
  | succ n ih =>
    intro hn
    exact Pa_if (fun _ => Pa_0 (ih (by omega)) (Pa_send (by omega))) (fun _ => ih (by omega))
theorem Pa_sendAll {bt : Bool} : Pa s (sL s) 0 a (A_sendAll a s bt) := Pa_sendAllN 7 (by omega)
theorem Pa_reply {q : AQ} {w p : Int32} {bs : List Int32} (hq : aInR (q 1) 8 15 = true) (hw : w = 1 → 0 ≤ p → aInR p 0 6 = true) : Pa s (sL s) 0 a (aReply a s q w p bs) := Pa_post ⟨rfl, Or.inr ⟨hq, rfl⟩, (by decide : ¬ (11 : Int32) = 10), fun _ => hw⟩
theorem Pa_rqf {g : AQ → Bool} : Pa s (sL s) 0 a (aRqS a s ((aRq a s).filter g)) := Pa.rq (fun q hq => Or.inl (List.mem_filter.mp hq).1)
theorem Pa_reads {cc : Int32} : ∀ (v : List AQ) (a : AA), (∀ q ∈ v, aInR (q 1) 8 15 = true) → Pa s (sL s) 0 a (aReads s cc v a) := by
  intro v
  induction v with
  | nil => exact fun a _ => Pa.nil
  | cons q r ih =>
    intro a hv
    unfold aReads
    refine Pa_if (fun _ => Pa_0 (Pa_0 Pa_rqf (Pa_reply (hv q List.mem_cons_self) (fun z => absurd z (by decide)))) (ih _ (fun x hx => hv x (List.mem_cons_of_mem _ hx)))) (fun _ => ih _ (fun x hx => hv x (List.mem_cons_of_mem _ hx)))
theorem Pa_answerReads (h : Ph s (sL s) a) : Pa s (sL s) 0 a (A_answerReads a s) := Pa_reads _ _ h.2.1
theorem Pa_beatPeer {p : Nat} (hp : p < 7) : Pa s (sL s) 0 a (A_beatPeer a s p) := by
  unfold A_beatPeer
  dsimp only
  exact Pa_nq (by decide) hp (Pa_if (fun _ => Pa_nq (by decide) hp (Pa_nq (by decide) hp (Pa.nuq (by decide) hp))) (fun _ => Pa.nil))
theorem Pa_beatPeers : ∀ n, n ≤ 7 → Pa s (sL s) 0 a (aBeatPeers a s n) := by
  intro n
  induction n with
  | zero => exact fun _ => Pa.nil
  | succ n ih => exact fun hn => Pa_0 (ih (by omega)) (Pa_beatPeer (by omega))
theorem Pa_beat (h : Ph s (sL s) a) (hs : s < 7) : Pa s (sL s) 1 a (A_beat a s) := by
  have h1 : Pa s (sL s) 0 a (if 0 ≤ aS a 80 s ∧ 50 < aNow a - aS a 81 s then aI a 80 s (-1) else a) := Pa_if (fun _ => Pa_n80 (by decide) Pa.nil) (fun _ => Pa.nil)
  have hN : aNow (if 0 ≤ aS a 80 s ∧ 50 < aNow a - aS a 81 s then aI a 80 s (-1) else a) = aNow a := by
    split <;> rfl
  unfold A_beat
  dsimp only
  generalize (if 0 ≤ aS a 80 s ∧ 50 < aNow a - aS a 81 s then aI a 80 s (-1) else a) = b at h1 hN ⊢
  have g0 : Pa s (sL s) 1 a (A_alarm b s (aNow a + 10)) := by
    rw [← hN]
    exact Pa_al (n := 10) (by decide) (by decide) h1
  have g1 := Pa_n (f := 83) (v := aS (A_alarm b s (aNow a + 10)) 83 s + 1) (by decide) g0
  have g2 := Pa_0 g1 (Pa_beatPeers 7 (by omega))
  have g3 : ∀ c, Pa s (sL s) 1 a c → Pa s (sL s) 1 a (A_answerReads (A_sendAll (aI (aI (aI c 87 (7 * s + s) (aS a 77 s)) 92 (7 * s + s) (aNow a)) 91 (7 * s + s) (aS c 83 s)) s true) s) := by
    intro c gc
    have g4 := Pa_0 (Pa_nq (f := 91) (v := aS c 83 s) (by decide) hs (Pa_nq (f := 92) (v := aNow a) (by decide) hs (Pa_nq (f := 87) (v := aS a 77 s) (by decide) hs gc))) (Pa_sendAll (bt := true))
    exact Pa_0 g4 (Pa_answerReads (Pa_H g4 h))
  exact g3 _ g2
theorem Pa_begin : ∀ n, n ≤ 7 → Pa s (sL s) 0 a (aBegin a s n) := by
  intro n
  induction n with
  | zero => exact fun _ => Pa.nil
  | succ n ih =>
    intro hn
    have hp : n < 7 := by omega
    exact Pa_nq (by decide) hp (Pa_nq (by decide) hp (Pa_nq (by decide) hp (Pa_nq (by decide) hp (Pa_nq (by decide) hp (Pa_nq (by decide) hp (Pa_nq (by decide) hp (Pa_nq (by decide) hp (ih (by omega)))))))))
theorem Pa_lead (h : Ph s (sL s) a) (hs : s < 7) : Pa s (sL s) 1 a (A_lead a s) := by
  unfold A_lead
  dsimp only
  refine Pa_if (fun _ => Pa_stepDown h (by decide)) (fun _ => ?_)
  have h1 : Pa s (sL s) 0 a (aI (aI (aI a 73 s 3) 74 s (Int32.ofNat s)) 80 s (-1)) := Pa_n80 (by decide) (Pa_n74 (inR_m s hs) (Pa_nn (by decide)))
  have h2 := Pa_n (f := 82) (v := aLast (aI (aI (aI a 73 s 3) 74 s (Int32.ofNat s)) 80 s (-1)) s + 1) (by decide) (Pa_n (f := 83) (v := 0) (by decide) (Pa_0 h1 (Pa_begin 7 (by omega))))
  have h3 := Pa_0 h2 (Pa_append (e := (aS a 53 s, 0, 0, 0, 0, -1)) (Pa_H h2 h))
  exact Pa.cat h3 (Pa_beat (Pa_H h3 h) hs)
theorem Pa_appendCode {cc : Int32} (h : Ph s (sL s) a) : Pa s (sL s) 0 a (A_appendCode a s cc) := Pa_append h
theorem Pa_apply1 {n : Int32} (h : Ph s (sL s) a) : Pa s (sL s) 0 a (aApply1 a s n) := by
  have key : ∀ M : AM, Pa s (sL s) 0 a (aRqS (aMcS (aI a 76 s n) s M) s ((aRq a s).filter (fun q => !(decide (q 6 = -1) && decide (q 4 = n))))) := fun M => Pa_0 (Pa_0 (Pa_nn (by decide)) Pa.mc) (Pa.rq (fun q hq => Or.inl (List.mem_filter.mp hq).1))
  unfold aApply1
  dsimp only
  cases e : (aRq a s).find? (fun q => decide (q 6 = -1) && decide (q 4 = n)) with
  | none => exact key _
  | some q =>
    have hq : aInR (q 1) 8 15 = true := h.2.1 q (List.mem_of_find?_eq_some e)
    exact Pa_if (fun _ => Pa_0 (key _) (Pa_reply hq (fun z => absurd z w02))) (fun _ => key _)
theorem Pa_applyN : ∀ (n : Nat) (a : AA), Ph s (sL s) a → Pa s (sL s) 0 a (aApplyN s n a) := by
  intro n
  induction n with
  | zero => exact fun a _ => Pa.nil
  | succ n ih =>
    intro a h
    unfold aApplyN
    exact Pa_if (fun _ => Pa_0 (Pa_apply1 h) (ih _ (Pa_H (Pa_apply1 h) h))) (fun _ => Pa.nil)
theorem Pa_apply (h : Ph s (sL s) a) : Pa s (sL s) 0 a (A_apply a s) := by
  have h1 := Pa_0 (Pa_applyN 300 a h) (Pa_answerReads (Pa_H (Pa_applyN 300 a h) h))
  unfold A_apply
  dsimp only
  exact Pa_if (fun _ => Pa_0 h1 (Pa_compact (Pa_H h1 h))) (fun _ => h1)
theorem Pa_count (h : Ph s (sL s) a) : Pa s (sL s) 1 a (A_count a s) := by
  have key : ∀ n : Int32, Pa s (sL s) 0 a (if aS a 75 s < n ∧ aTermAt a s n = aS a 53 s then A_apply (aI a 75 s n) s else a) := fun n => Pa_if (fun _ => Pa_0 (Pa_nn (by decide)) (Pa_apply (Pa_H (P := sL s) (Pa_nn (by decide)) h))) (fun _ => Pa.nil)
  have k1 := key (aCommon (aS a 65 s) (fun p => aS a 87 (7 * s + p)) 7)
  have h1 := Pa_H k1 h
  unfold A_count
  dsimp only
  refine Pa_if (fun _ => Pa.wk k1 (by omega)) (fun _ => Pa_if (fun _ => Pa_if (fun _ => Pa.wk k1 (by omega)) (fun _ => ?_)) (fun _ => Pa_if (fun _ => Pa.cat k1 (Pa_stepDown h1 (by decide))) (fun _ => Pa.wk k1 (by omega))))
  exact Pa.wk (Pa_0 (Pa_0 k1 (Pa_appendCode h1)) Pa_sendAll) (by omega)
theorem Pa_sendAllOut {P : AL → Prop} : ∀ (v : List AL) (a : AA), (∀ l ∈ v, P l) → Pa s P 0 a (A_sendAllOut a v) := by
  intro v
  induction v with
  | nil => exact fun a _ => Pa.nil
  | cons l r ih => exact fun a h => Pa_0 (Pa.out (h l List.mem_cons_self)) (ih _ (fun x hx => h x (List.mem_cons_of_mem _ hx)))
theorem Pa_sync (h : Ph s (sL s) a) (hs : s < 7) (h31 : aS a 31 s < 0) : Pa s (sL s) 2 a (A_sync a s) := by
  have h1 : Pa s (sL s) 1 a (A_sendAllOut (aWtS (A_syncAll a s) s []) (aWt a s)) := Pa_0 (Pa_0 (Pa_syncAll h31) Pa.wt0) (Pa_sendAllOut _ _ h.2.2.1)
  have key : ∀ a1, Pa s (sL s) 1 a a1 → Pa s (sL s) 2 a (
    let a2 := aI a1 77 s (aLast a1 s)
    if aS a2 73 s = 2 then
      let a3 := aI a2 79 s (aS a2 79 s ||| (1 <<< Int32.ofNat s))
      if aMaj (aS a3 65 s) (aS a3 79 s) then A_lead a3 s else a3
    else if aS a2 73 s = 3 then A_count (aI a2 87 (7 * s + s) (aS a2 77 s)) s
    else a2) := by
    intro a1 g1
    have g2 := Pa_n (f := 77) (v := aLast a1 s) (by decide) g1
    dsimp only
    refine Pa_if (fun _ => ?_) (fun _ => Pa_if (fun _ => ?_) (fun _ => Pa.wk g2 (by omega)))
    · have g3 := Pa_n (f := 79) (v := aS (aI a1 77 s (aLast a1 s)) 79 s ||| (1 <<< Int32.ofNat s)) (by decide) g2
      exact Pa_if (fun _ => Pa.cat g3 (Pa_lead (Pa_H g3 h) hs)) (fun _ => Pa.wk g3 (by omega))
    · have g3 := Pa_nq (f := 87) (v := aS (aI a1 77 s (aLast a1 s)) 77 s) (by decide) hs g2
      exact Pa.cat g3 (Pa_count (Pa_H g3 h))
  exact key _ h1
theorem Pa_ring (h : Ph s (sL s) a) (hs : s < 7) : Pa s (sL s) 2 a (A_ring a s) := by
  unfold A_ring
  dsimp only
  refine Pa_if (fun _ => ?_) (fun _ => ?_)
  · have g : Pa s (sL s) 0 a (aI a 92 (7 * s + s) (aNow a)) := Pa.nuq (by decide) hs
    exact Pa.wk (Pa_if (fun _ => Pa.cat g (Pa_stepDown (Pa_H g h) (by decide))) (fun _ => Pa.cat g (Pa_beat (Pa_H g h) hs))) (show 0 + 1 ≤ 2 by omega)
  · have g1 : Pa s (sL s) 1 a (A_drawAlarm a s) := Pa_drawAlarm
    refine Pa_if (fun _ => ?_) (fun _ => Pa.wk g1 (by omega))
    have g2 := Pa_0 (Pa_n (f := 79) (v := 1 <<< Int32.ofNat s) (by decide) (Pa_n74 (v := -1) (by decide) (Pa_n (f := 73) (v := 1) (by decide) g1))) (Pa_askVoters (kd := 1) (t := aS a 53 s + 1) (by decide) 7 (by omega))
    exact Pa_if (fun _ => Pa.cat g2 (Pa_campaign (Pa_H g2 h) hs)) (fun _ => Pa.wk g2 (by omega))
theorem Pa_tell {f kd x7 x6 x12 x10 : Int32} (hf : toOK f) (hk : ¬ kd = 10 ∧ ¬ kd = 11) : Pa s (sL s) 0 a (A_tell a s f kd x7 x6 x12 x10) := Pa_post ⟨rfl, Or.inl hf, hk.1, fun z => absurd z hk.2⟩
theorem Pa_appended {f w p r : Int32} (hf : toOK f) : Pa s (sL s) 0 a (aAppended a s f w p r) := Pa_tell hf (by decide)
theorem Pa_stored {f b0 z r : Int32} (hf : toOK f) : Pa s (sL s) 0 a (aStored a s f b0 z r) := Pa_tell hf (by decide)
theorem Pa_vote {f kd t : Int32} {b0 : Bool} (hf : toOK f) (hk : ¬ kd = 10 ∧ ¬ kd = 11) : Pa s (sL s) 0 a (aVote a s f kd t b0) := Pa_post ⟨rfl, Or.inl hf, hk.1, fun z => absurd z hk.2⟩
theorem Pa_preask {l : AL} (hl : toOK (l.1 2)) : Pa s (sL s) 0 a (A_preask a s l) := Pa_vote hl (by decide)
theorem Pa_ask {l : AL} (h : Ph s (sL s) a) (hl : toOK (l.1 2)) : Pa s (sL s) 1 a (A_ask a s l) := by
  unfold A_ask
  dsimp only
  refine Pa_0 (Pa_if (fun _ => ?_) (fun _ => Pa.wk Pa.nil (by omega))) (Pa_vote hl (by decide))
  refine Pa_d (Pa_n (by decide) (Pa_if (fun _ => Pa.nil) (fun _ => ?_)))
  exact Pa_0 (Pa_nn (by decide)) (Pa_writeSlot (Pa_H (P := sL s) (Pa_nn (by decide)) h))
theorem Pa_appendAll : ∀ (v : List AE) (a : AA), Ph s (sL s) a → Pa s (sL s) 0 a (aAppendAll s v a) := by
  intro v
  induction v with
  | nil => exact fun a _ => Pa.nil
  | cons e r ih => exact fun a h => Pa_0 (Pa_append h) (ih _ (Pa_H (Pa_append h) h))
theorem Pa_take {l : AL} (h : Ph s (sL s) a) (hl : toOK (l.1 2)) : Pa s (sL s) 0 a (A_take a s l) := by
  unfold A_take
  dsimp only
  refine Pa_if (fun _ => Pa_appended hl) (fun _ => Pa_if (fun _ => Pa_appended hl) (fun _ => Pa_if (fun _ => Pa.nil) (fun _ => ?_)))
  have key : ∀ (q : Prop) [Decidable q] (n : Int32) (v : List AE), Pa s (sL s) 0 a (aAppendAll s v (if q then A_cutLog a s n else a)) := by
    intro q _ n v
    have g : Pa s (sL s) 0 a (if q then A_cutLog a s n else a) := Pa_if (fun _ => Pa_cutLog h) (fun _ => Pa.nil)
    exact Pa_0 g (Pa_appendAll v _ (Pa_H g h))
  have g2 := Pa_n (f := 75) (v := aMax (aS (aAppendAll s (aNews a s (l.1 7 + 1) (l.2.1.take (aBase a s + 250 - l.1 7).toNatClampNeg)).2 (if (aNews a s (l.1 7 + 1) (l.2.1.take (aBase a s + 250 - l.1 7).toNatClampNeg)).2 ≠ [] ∧ (aNews a s (l.1 7 + 1) (l.2.1.take (aBase a s + 250 - l.1 7).toNatClampNeg)).1 ≤ aLast a s then A_cutLog a s (aNews a s (l.1 7 + 1) (l.2.1.take (aBase a s + 250 - l.1 7).toNatClampNeg)).1 else a)) 75 s) (aMin (l.1 9) (aMax (l.1 7 + Int32.ofNat (l.2.1.take (aBase a s + 250 - l.1 7).toNatClampNeg).length) (aBase (aAppendAll s (aNews a s (l.1 7 + 1) (l.2.1.take (aBase a s + 250 - l.1 7).toNatClampNeg)).2 (if (aNews a s (l.1 7 + 1) (l.2.1.take (aBase a s + 250 - l.1 7).toNatClampNeg)).2 ≠ [] ∧ (aNews a s (l.1 7 + 1) (l.2.1.take (aBase a s + 250 - l.1 7).toNatClampNeg)).1 ≤ aLast a s then A_cutLog a s (aNews a s (l.1 7 + 1) (l.2.1.take (aBase a s + 250 - l.1 7).toNatClampNeg)).1 else a)) s)))) (by decide) (key ((aNews a s (l.1 7 + 1) (l.2.1.take (aBase a s + 250 - l.1 7).toNatClampNeg)).2 ≠ [] ∧ (aNews a s (l.1 7 + 1) (l.2.1.take (aBase a s + 250 - l.1 7).toNatClampNeg)).1 ≤ aLast a s) (aNews a s (l.1 7 + 1) (l.2.1.take (aBase a s + 250 - l.1 7).toNatClampNeg)).1 (aNews a s (l.1 7 + 1) (l.2.1.take (aBase a s + 250 - l.1 7).toNatClampNeg)).2)
  exact Pa_0 (Pa_0 g2 (Pa_apply (Pa_H g2 h))) (Pa_appended hl)
theorem Pa_assemble {l : AL} (h : Ph s (sL s) a) (hl : toOK (l.1 2)) : Pa s (sL s) 0 a (A_assemble a s l) := by
  unfold A_assemble
  dsimp only
  refine Pa_if (fun _ => Pa_stored hl) (fun _ => ?_)
  have key : ∀ a1, Pa s (sL s) 0 a a1 → Pa s (sL s) 0 a (if ¬ aS a1 69 s = l.1 7 ∨ ¬ l.1 13 = aS a1 70 s then aStored a1 s (l.1 2) (l.1 7) (if aS a1 69 s = l.1 7 then aS a1 70 s else 0) (l.1 10)
    else
      let a2 := aAdd a1 70 s (l.1 17)
      let got := aS a2 70 s
      let a3 := if l.1 12 ≤ got then
          let c0 := aShS (aI (aMoveBase a2 s (l.1 7) (l.1 8) (l.1 11)) 67 s (l.1 12)) s l.2.2.2
          let c1 := aMcS (aI (aI c0 75 s (l.1 7)) 76 s (l.1 7)) s l.2.2.2
          aI (aSoil (aFindCode (aTrim (aWriteShot c1 s) s) s) s) 69 s (-1)
        else a2
      aStored a3 s (l.1 2) (l.1 7) got (l.1 10)) := by
    intro a1 g1
    have g2 := Pa_n (f := 70) (v := aS a1 70 s + l.1 17) (by decide) g1
    dsimp only
    refine Pa_if (fun _ => Pa_0 g1 (Pa_stored hl)) (fun _ => Pa_0 (Pa_if (fun _ => ?_) (fun _ => g2)) (Pa_stored hl))
    have g3 := Pa_0 (Pa_0 (Pa_n (f := 76) (v := l.1 7) (by decide) (Pa_n (f := 75) (v := l.1 7) (by decide) (Pa_0 (Pa_n (f := 67) (v := l.1 12) (by decide) (Pa_0 g2 (Pa_moveBase (n := l.1 7) (t := l.1 8) (c := l.1 11)))) (Pa.sh (v := l.2.2.2))))) (Pa.mc (v := l.2.2.2))) Pa_writeShot
    exact Pa_n (by decide) (Pa_0 (Pa_0 (Pa_0 g3 (Pa_trim (Pa_H g3 h))) Pa_findCode) Pa.soil)
  refine key _ (Pa_if (fun _ => ?_) (fun _ => Pa.nil))
  exact Pa_0 (Pa_n (by decide) (Pa_nn (by decide))) Pa.pm
theorem Pa_led {l : AL} (h : Ph s (sL s) a) (hl : aInR (l.1 2) 0 6 = true) : Pa s (sL s) 2 a (A_led a s l) := by
  unfold A_led
  dsimp only
  refine Pa_if (fun _ => Pa.wk (Pa_if (fun _ => Pa_appended hl) (fun _ => Pa_stored hl)) (by omega)) (fun _ => Pa_if (fun _ => Pa.wk Pa.nil (by omega)) (fun _ => ?_))
  have g := Pa_d (Pa_n (f := 78) (v := aNow a) (by decide) (Pa_stepDown (t := aS a 53 s) h (inR_1 hl)))
  exact Pa_if (fun _ => Pa_0 g (Pa_take (Pa_H g h) hl)) (fun _ => Pa_0 g (Pa_assemble (Pa_H g h) hl))
theorem inR_lt {x : Int32} (h : aInR x 0 6 = true) : x.toNatClampNeg < 7 := by
  obtain ⟨p, hp, e⟩ := inR_s h
  rw [e, i_cl (by omega)]
  exact hp
theorem Pa_heardOf {l : AL} (h : Ph s (sL s) a) (hl : aInR (l.1 2) 0 6 = true) : Pa s (sL s) 1 a (A_heardOf a s l) := by
  have hp := inR_lt hl
  have key : ∀ a2, Pa s (sL s) 0 a a2 → Pa s (sL s) 1 a (
    let a3 := A_answerReads (A_count a2 s) s
    if ¬ aS a3 73 s = 3 ∨ aPeer a3 s (l.1 2).toNatClampNeg = false then a3
    else
      let a4 := A_send a3 s (l.1 2).toNatClampNeg false
      if aS a4 80 s = l.1 2 ∧ aS a4 87 (7 * s + (l.1 2).toNatClampNeg) = aLast a4 s then A_tell a4 s (l.1 2) 9 0 0 0 0 else a4) := by
    intro a2 g2
    have g3 := Pa.cat g2 (Pa_count (Pa_H g2 h))
    have g4 := Pa_0 g3 (Pa_answerReads (Pa_H g3 h))
    have g5 := Pa_0 g4 (Pa_send (p := (l.1 2).toNatClampNeg) (bt := false) hp)
    dsimp only
    exact Pa.wk (Pa_if (fun _ => g4) (fun _ => Pa_if (fun _ => Pa_0 g5 (Pa_tell hl (by decide))) (fun _ => g5))) (by omega)
  have g1 : ∀ x y z, Pa s (sL s) 0 a (aI (aI (aI a 92 (7 * s + (l.1 2).toNatClampNeg) x) 93 (7 * s + (l.1 2).toNatClampNeg) y) 91 (7 * s + (l.1 2).toNatClampNeg) z) := fun x y z => Pa_nq (by decide) hp (Pa_nq (by decide) hp (Pa.nuq (by decide) hp))
  unfold A_heardOf
  dsimp only
  refine key _ (Pa_if (fun _ => Pa_if (fun _ => ?_) (fun _ => Pa_if (fun _ => ?_) (fun _ => ?_))) (fun _ => Pa_if (fun _ => ?_) (fun _ => ?_)))
  · exact Pa_nq (by decide) hp (Pa_nq (by decide) hp (g1 _ _ _))
  · exact Pa_nq (by decide) hp (Pa_nq (by decide) hp (Pa_nq (by decide) hp (Pa_nq (by decide) hp (Pa_nq (by decide) hp (g1 _ _ _)))))
  · exact Pa_nq (by decide) hp (Pa_nq (by decide) hp (g1 _ _ _))
  · exact Pa_nq (by decide) hp (Pa_nq (by decide) hp (Pa_nq (by decide) hp (Pa_nq (by decide) hp (g1 _ _ _))))
  · exact Pa_nq (by decide) hp (Pa_nq (by decide) hp (Pa_nq (by decide) hp (g1 _ _ _)))
theorem Pa_came {l : AL} (h : Ph s (sL s) a) (hs : s < 7) (hl : aInR (l.1 2) 0 6 = true) : Pa s (sL s) 3 a (A_came a s l) := by
  have key : ∀ a1, Pa s (sL s) 1 a a1 → Pa s (sL s) 3 a (
    if l.1 4 = 1 then A_preask a1 s l
    else if l.1 4 = 2 then
      if l.1 6 = 1 ∧ l.1 5 = aS a1 53 s + 1 ∧ aS a1 73 s = 1 then
        let a2 := aI a1 79 s (aS a1 79 s ||| (1 <<< l.1 2))
        if aMaj (aS a2 65 s) (aS a2 79 s) then A_campaign a2 s else a2
      else a1
    else if l.1 4 = 3 then A_ask a1 s l
    else if l.1 4 = 4 then
      if l.1 6 = 1 ∧ l.1 5 = aS a1 53 s ∧ aS a1 73 s = 2 then
        let a2 := aI a1 79 s (aS a1 79 s ||| (1 <<< l.1 2))
        if aMaj (aS a2 65 s) (aS a2 79 s) then A_lead a2 s else a2
      else a1
    else if l.1 4 = 5 ∨ l.1 4 = 7 then A_led a1 s l
    else if l.1 4 = 6 ∨ l.1 4 = 8 then
      if l.1 5 = aS a1 53 s ∧ aS a1 73 s = 3 ∧ aPeer a1 s (l.1 2).toNatClampNeg then A_heardOf a1 s l else a1
    else if l.1 5 = aS a1 53 s ∧ aS a1 73 s < 2 ∧ aVoter a1 s s then A_campaign a1 s else a1) := by
    intro a1 g1
    have h1 := Pa_H g1 h
    have g2 := Pa_n (f := 79) (v := aS a1 79 s ||| (1 <<< l.1 2)) (by decide) g1
    have h2 := Pa_H g2 h
    have w1 : Pa s (sL s) 3 a a1 := Pa.wk g1 (by omega)
    have w2 := Pa.wk (j := 3) g2 (by omega)
    dsimp only
    refine Pa_if (fun _ => Pa.wk (Pa_0 g1 (Pa_preask hl)) (by omega)) (fun _ => Pa_if (fun _ => Pa_if (fun _ => Pa_if (fun _ => ?_) (fun _ => w2)) (fun _ => w1)) (fun _ => Pa_if (fun _ => ?_) (fun _ => Pa_if (fun _ => Pa_if (fun _ => Pa_if (fun _ => ?_) (fun _ => w2)) (fun _ => w1)) (fun _ => Pa_if (fun _ => ?_) (fun _ => Pa_if (fun _ => Pa_if (fun _ => ?_) (fun _ => w1)) (fun _ => Pa_if (fun _ => ?_) (fun _ => w1)))))))
    · exact Pa.wk (Pa.cat g2 (Pa_campaign h2 hs)) (by omega)
    · exact Pa.wk (Pa.cat g1 (Pa_ask h1 hl)) (by omega)
    · exact Pa.wk (Pa.cat g2 (Pa_lead h2 hs)) (by omega)
    · exact Pa.cat g1 (Pa_led h1 hl)
    · exact Pa.wk (Pa.cat g1 (Pa_heardOf h1 hl)) (by omega)
    · exact Pa.wk (Pa.cat g1 (Pa_campaign h1 hs)) (by omega)
  unfold A_came
  dsimp only
  exact key _ (Pa_if (fun _ => Pa_stepDown h (by decide)) (fun _ => Pa.wk Pa.nil (by omega)))
theorem Pa_hold {l : AL} {n r : Int32} (hl : aInR (l.1 2) 8 15 = true) : Pa s (sL s) 0 a (aHold a s l n r) := by
  unfold aHold
  dsimp only
  refine Pa_n (by decide) (Pa.rq (fun q hq => ?_))
  rcases List.mem_append.mp hq with y | y
  · exact Or.inl (List.mem_filter.mp y).1
  · right
    rw [List.mem_singleton.mp y]
    exact hl
theorem Pa_asked {l : AL} (h : Ph s (sL s) a) (hl : aInR (l.1 2) 8 15 = true) : Pa s (sL s) 0 a (A_asked a s l) := by
  unfold A_asked
  dsimp only
  refine Pa_if (fun _ => Pa_reply hl (fun _ z => inR_0 ?_ z)) (fun _ => Pa_if (fun _ => Pa_hold hl) (fun _ => Pa_if (fun _ => Pa_reply hl (fun z => absurd z (by decide))) (fun _ => ?_)))
  · split
    · exact h.2.2.2.2.2
    · exact h.2.2.2.2.1
  · exact Pa_0 (Pa_0 (Pa_append h) Pa_sendAll) (Pa_hold hl)
end PA1
