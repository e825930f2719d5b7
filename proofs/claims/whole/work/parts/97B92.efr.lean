/-! what an event leaves as it was: throws, delays, parts, noise, who is up, latencies, first members -/
def Wev : List Nat := [1, 2, 3, 20, 21, 22, 29, 30, 31, 32, 43, 45, 46, 47, 53, 54, 55, 56, 57, 58, 64, 65, 67, 69, 70, 71, 73, 74, 75, 76, 77, 78, 79, 80, 81, 82, 83, 86, 87, 88, 89, 90, 91, 92, 93, 124, 125, 126, 127, 128, 129, 130, 131, 137, 141, 150, 151]
def Tev : List Nat := [0, 1, 2, 3, 4, 5, 6, 7, 8, 9, 10, 11, 12, 13]
abbrev EFr (a b : AA) : Prop := AFr Wev Tev a b
theorem EFr_w {W T : List Nat} {a b : AA} (h : AFr W T a b) (h1 : sub0 W Wev = true) (h2 : sub0 T Tev = true) : EFr a b := AFr_w h h1 h2
theorem EFr_r {a : AA} : EFr a a := EFr_w AFr_r (by decide) (by decide)
theorem EFr_t {a b c : AA} (h : EFr a b) (h' : EFr b c) : EFr a c := AFr_w (AFr_t h h') (by decide +kernel) (by decide +kernel)
theorem EFr_if {a b c : AA} {p : Prop} [Decidable p] (h : EFr a b) (h' : EFr a c) : EFr a (if p then b else c) := by
  by_cases q : p
  · rw [if_pos q]
    exact h
  · rw [if_neg q]
    exact h'
theorem EFr_I {a : AA} {f i : Nat} {v : Int32} (h : sub0 [f] Wev = true) : EFr a (aI a f i v) := EFr_w AFr_I h (by decide)
theorem EFr_post {a : AA} {s : Nat} {l : AL} : EFr a (A_post a s l) := EFr_w AFr_post (by decide) (by decide)
theorem EFr_beatPeers {a : AA} {s : Nat} : ∀ n, EFr a (aBeatPeers a s n) := by
  intro n
  induction n with
  | zero => exact EFr_r
  | succ n ih =>
    refine EFr_t ih ?_
    show EFr _ (A_beatPeer (aBeatPeers a s n) s n)
    generalize aBeatPeers a s n = b
    unfold A_beatPeer
    exact EFr_t (EFr_if (EFr_t (EFr_t (EFr_I (by decide)) (EFr_I (by decide))) (EFr_I (by decide))) EFr_r) (EFr_I (by decide))
theorem EFr_answerReads {a : AA} {s : Nat} : EFr a (A_answerReads a s) := EFr_w AFr_answerReads (by decide) (by decide)
theorem EFr_sendAll {a : AA} {s : Nat} {b : Bool} : EFr a (A_sendAll a s b) := EFr_w AFr_sendAll (by decide) (by decide)
theorem EFr_alarm {a : AA} {e : Nat} {t : Int32} : EFr a (A_alarm a e t) := EFr_w AFr_alarm (by decide) (by decide)
theorem EFr_drawAlarm {a : AA} {s : Nat} : EFr a (A_drawAlarm a s) := EFr_w AFr_drawAlarm (by decide) (by decide)
theorem EFr_beat {a : AA} {s : Nat} : EFr a (A_beat a s) := by
  unfold A_beat
  dsimp only
  refine EFr_t ?_ EFr_answerReads
  refine EFr_t ?_ EFr_sendAll
  refine EFr_t ?_ (EFr_I (by decide))
  refine EFr_t ?_ (EFr_I (by decide))
  refine EFr_t ?_ (EFr_I (by decide))
  refine EFr_t ?_ (EFr_beatPeers 7)
  refine EFr_t ?_ (EFr_I (by decide))
  refine EFr_t ?_ EFr_alarm
  exact EFr_if (EFr_I (by decide)) EFr_r
theorem EFr_stepDown {a : AA} {s : Nat} {t l : Int32} : EFr a (A_stepDown a s t l) := EFr_w AFr_stepDown (by decide) (by decide)
theorem EFr_app {a : AA} {s : Nat} {e : AE} : EFr a (A_append a s e) := EFr_w AFr_app (by decide) (by decide)
theorem EFr_lead {a : AA} {s : Nat} : EFr a (A_lead a s) := by
  unfold A_lead
  dsimp only
  refine EFr_if EFr_stepDown ?_
  refine EFr_t ?_ EFr_beat
  refine EFr_t ?_ EFr_app
  refine EFr_t ?_ (EFr_I (by decide))
  refine EFr_t ?_ (EFr_I (by decide))
  refine EFr_t ?_ (EFr_w (AFr_begin 7) (by decide) (by decide))
  refine EFr_t ?_ (EFr_I (by decide))
  refine EFr_t ?_ (EFr_I (by decide))
  exact EFr_I (by decide)
theorem EFr_count {a : AA} {s : Nat} : EFr a (A_count a s) := EFr_w AFr_count (by decide) (by decide)
theorem EFr_apply {a : AA} {s : Nat} : EFr a (A_apply a s) := EFr_w AFr_apply (by decide) (by decide)
theorem EFr_sync {a : AA} {s : Nat} : EFr a (A_sync a s) := by
  rw [A_sync_e]
  have h1 : EFr a (sy1 a s) := EFr_w AFr_sy1 (by decide) (by decide)
  dsimp only
  refine EFr_if ?_ (EFr_if ?_ h1)
  · exact EFr_if (EFr_t (EFr_t h1 (EFr_I (by decide))) EFr_lead) (EFr_t h1 (EFr_I (by decide)))
  · exact EFr_t (EFr_t h1 (EFr_I (by decide))) EFr_count
theorem EFr_campaign {a : AA} {s : Nat} : EFr a (A_campaign a s) := EFr_w AFr_campaign (by decide) (by decide)
theorem EFr_askVoters {a : AA} {s : Nat} {k t : Int32} {n : Nat} : EFr a (aAskVoters a s k t n) := EFr_w (AFr_askVoters n) (by decide) (by decide)
theorem EFr_ring {a : AA} {s : Nat} : EFr a (A_ring a s) := by
  unfold A_ring
  dsimp only
  refine EFr_if (EFr_if (EFr_t (EFr_I (by decide)) EFr_stepDown) (EFr_t (EFr_I (by decide)) EFr_beat)) ?_
  have h3 : EFr a (aAskVoters (aI (aI (aI (A_drawAlarm a s) 73 s 1) 74 s (-1)) 79 s (1 <<< Int32.ofNat s)) s 1 (aS a 53 s + 1) 7) := by
    refine EFr_t ?_ EFr_askVoters
    exact EFr_t (EFr_t (EFr_t EFr_drawAlarm (EFr_I (by decide))) (EFr_I (by decide))) (EFr_I (by decide))
  exact EFr_if (EFr_if (EFr_t h3 EFr_campaign) h3) EFr_drawAlarm
theorem EFr_tell {a : AA} {s : Nat} {f k x7 x6 x12 x10 : Int32} : EFr a (A_tell a s f k x7 x6 x12 x10) := EFr_post
theorem EFr_vote {a : AA} {s : Nat} {f k t : Int32} {b : Bool} : EFr a (aVote a s f k t b) := EFr_post
theorem EFr_ask {a : AA} {s : Nat} {l : AL} : EFr a (A_ask a s l) := by
  unfold A_ask
  dsimp only
  refine EFr_t ?_ EFr_vote
  refine EFr_if ?_ EFr_r
  refine EFr_t ?_ EFr_drawAlarm
  refine EFr_t ?_ (EFr_I (by decide))
  exact EFr_if EFr_r (EFr_t (EFr_I (by decide)) (EFr_w AFr_writeSlot (by decide) (by decide)))
theorem EFr_cutLog {a : AA} {s : Nat} {n : Int32} : EFr a (A_cutLog a s n) := EFr_w AFr_cutLog (by decide) (by decide)
theorem EFr_appendAll {s : Nat} {l : List AE} {a : AA} : EFr a (aAppendAll s l a) := EFr_w (AFr_appendAll l a) (by decide) (by decide)
theorem EFr_take {a : AA} {s : Nat} {l : AL} : EFr a (A_take a s l) := by
  unfold A_take aAppended
  dsimp only
  refine EFr_if EFr_tell (EFr_if EFr_tell (EFr_if EFr_r ?_))
  refine EFr_t ?_ EFr_tell
  refine EFr_t ?_ EFr_apply
  refine EFr_t ?_ (EFr_I (by decide))
  refine EFr_t ?_ EFr_appendAll
  exact EFr_if EFr_cutLog EFr_r
theorem EFr_moveBase {a : AA} {s : Nat} {n t c : Int32} : EFr a (aMoveBase a s n t c) := EFr_w AFr_moveBase (by decide) (by decide)
theorem EFr_asB {a : AA} {s : Nat} {l : AL} : EFr a (asB a s l) := by
  unfold asB aStored
  dsimp only
  refine EFr_if EFr_tell (EFr_t ?_ EFr_tell)
  have h2 : EFr a (aAdd a 70 s (l.1 17)) := EFr_I (by decide)
  refine EFr_if ?_ h2
  refine EFr_t ?_ (EFr_I (by decide))
  refine EFr_t ?_ (EFr_w AFr_soil (by decide) (by decide))
  refine EFr_t ?_ (EFr_w AFr_findCode (by decide) (by decide))
  refine EFr_t ?_ (EFr_w AFr_trim (by decide) (by decide))
  refine EFr_t ?_ (EFr_w AFr_writeShot (by decide) (by decide))
  refine EFr_t ?_ (EFr_w AFr_mc (by decide) (by decide))
  refine EFr_t ?_ (EFr_I (by decide))
  refine EFr_t ?_ (EFr_I (by decide))
  refine EFr_t ?_ (EFr_w AFr_sh (by decide) (by decide))
  refine EFr_t ?_ (EFr_I (by decide))
  exact EFr_t h2 EFr_moveBase
theorem EFr_assemble {a : AA} {s : Nat} {l : AL} : EFr a (A_assemble a s l) := by
  by_cases q : l.1 7 ≤ aS a 75 s
  · unfold A_assemble
    dsimp only
    rw [if_pos q]
    exact EFr_post
  · rw [asB_e q]
    refine EFr_t ?_ EFr_asB
    exact EFr_if (EFr_t (EFr_t (EFr_I (by decide)) (EFr_I (by decide))) (EFr_w AFr_pm (by decide) (by decide))) EFr_r
theorem EFr_led {a : AA} {s : Nat} {l : AL} : EFr a (A_led a s l) := by
  unfold A_led aAppended aStored
  dsimp only
  refine EFr_if (EFr_if EFr_tell EFr_tell) (EFr_if EFr_r ?_)
  have h1 : EFr a (A_drawAlarm (aI (A_stepDown a s (aS a 53 s) (l.1 2)) 78 s (aNow a)) s) := EFr_t (EFr_t EFr_stepDown (EFr_I (by decide))) EFr_drawAlarm
  exact EFr_if (EFr_t h1 EFr_take) (EFr_t h1 EFr_assemble)
theorem EFr_send {a : AA} {s p : Nat} {b : Bool} : EFr a (A_send a s p b) := EFr_w AFr_send (by decide) (by decide)
theorem EFr_heardOf {a : AA} {s : Nat} {l : AL} : EFr a (A_heardOf a s l) := by
  rw [A_heardOf_e]
  unfold hdT
  dsimp only
  have h1 : EFr a (A_answerReads (A_count (hd2 (hd1 a s l) s l) s) s) := EFr_t (EFr_t (EFr_t (EFr_w AFr_hd1 (by decide) (by decide)) (EFr_w AFr_hd2 (by decide) (by decide))) EFr_count) EFr_answerReads
  exact EFr_if h1 (EFr_if (EFr_t (EFr_t h1 EFr_send) EFr_tell) (EFr_t h1 EFr_send))
theorem EFr_came {a : AA} {s : Nat} {l : AL} : EFr a (A_came a s l) := by
  unfold A_came
  dsimp only
  have h1 : EFr a (if aS a 53 s < l.1 5 ∧ ¬ l.1 4 = 1 ∧ ¬ (l.1 4 = 2 ∧ l.1 6 = 1) then A_stepDown a s (l.1 5) (-1) else a) := EFr_if EFr_stepDown EFr_r
  generalize (if aS a 53 s < l.1 5 ∧ ¬ l.1 4 = 1 ∧ ¬ (l.1 4 = 2 ∧ l.1 6 = 1) then A_stepDown a s (l.1 5) (-1) else a) = b at h1 ⊢
  have h79 : ∀ v, EFr a (aI b 79 s v) := fun v => EFr_t h1 (EFr_I (by decide))
  refine EFr_if (EFr_t h1 EFr_vote) (EFr_if ?_ (EFr_if (EFr_t h1 EFr_ask) (EFr_if ?_ (EFr_if (EFr_t h1 EFr_led) (EFr_if ?_ ?_)))))
  · exact EFr_if (EFr_if (EFr_t (h79 _) EFr_campaign) (h79 _)) h1
  · exact EFr_if (EFr_if (EFr_t (h79 _) EFr_lead) (h79 _)) h1
  · exact EFr_if (EFr_t h1 EFr_heardOf) h1
  · exact EFr_if (EFr_t h1 EFr_campaign) h1
theorem EFr_hold {a : AA} {s : Nat} {l : AL} {n r : Int32} : EFr a (aHold a s l n r) := EFr_t (EFr_w AFr_rq (by decide) (by decide)) (EFr_I (by decide))
theorem EFr_reply {a : AA} {s : Nat} {q : AQ} {w p : Int32} {bs : List Int32} : EFr a (aReply a s q w p bs) := EFr_w AFr_reply (by decide) (by decide)
theorem EFr_asked {a : AA} {s : Nat} {l : AL} : EFr a (A_asked a s l) := by
  unfold A_asked
  dsimp only
  refine EFr_if EFr_reply (EFr_if EFr_hold (EFr_if EFr_reply ?_))
  exact EFr_t (EFr_t EFr_app EFr_sendAll) EFr_hold
theorem AFr_ak {a : AA} {v : List AK} : AFr [] [10] a (aAkS a v) := ⟨fun _ _ _ => rfl, fun _ => rfl, fun _ => rfl, fun _ => rfl, fun _ => rfl, fun _ => rfl, fun _ => rfl, fun _ => rfl, fun _ => rfl, fun _ => rfl, fun _ => rfl, fun z => absurd (by simp) z, fun _ => rfl, fun _ => rfl, fun _ => rfl⟩
theorem AFr_dn {a : AA} {s : Nat} {v : List Int32} : AFr [] [13] a (aDnS a s v) := ⟨fun _ _ _ => rfl, fun _ => rfl, fun _ => rfl, fun _ => rfl, fun _ => rfl, fun _ => rfl, fun _ => rfl, fun _ => rfl, fun _ => rfl, fun _ => rfl, fun _ => rfl, fun _ => rfl, fun _ => rfl, fun _ => rfl, fun z => absurd (by simp) z⟩
theorem EFr_tellClient {a : AA} {c : Nat} {w p : Int32} : EFr a (aTellClient a c w p) := by
  unfold aTellClient
  dsimp only
  refine EFr_t ?_ (EFr_I (by decide))
  refine EFr_t ?_ (EFr_I (by decide))
  refine EFr_t ?_ (EFr_I (by decide))
  exact EFr_w AFr_ak (by decide) (by decide)
theorem EFr_resign {a : AA} {c : Nat} : EFr a (A_resign a c) := EFr_if (EFr_t (EFr_I (by decide)) EFr_tellClient) EFr_tellClient
theorem EFr_sendOut {a : AA} {l : AL} : EFr a (A_sendOut a l) := EFr_w AFr_sendOut (by decide) (by decide)
theorem EFr_demand {a : AA} {c : Nat} : EFr a (A_demand a c) := by
  rw [A_demand_e]
  have h1 : EFr a (aAdd a 129 c 1) := EFr_I (by decide)
  refine EFr_if (EFr_t h1 EFr_resign) ?_
  exact EFr_t (EFr_t (EFr_t h1 EFr_sendOut) EFr_alarm) (EFr_I (by decide))
theorem EFr_pause {a : AA} {c : Nat} {t : Int32} : EFr a (A_pause a c t) := EFr_t EFr_alarm (EFr_I (by decide))
theorem EFr_turn {a : AA} {c : Nat} : EFr a (aTurn a c) := EFr_I (by decide)
theorem EFr_hear {a : AA} {c : Nat} {l : AL} : EFr a (A_hear a c l) := by
  unfold A_hear
  refine EFr_if EFr_r (EFr_if (EFr_if ?_ ?_) (EFr_if (EFr_if ?_ ?_) (EFr_if ?_ EFr_pause)))
  · exact EFr_t (EFr_w AFr_dn (by decide) (by decide)) EFr_tellClient
  · refine EFr_t ?_ EFr_demand
    exact EFr_t (EFr_t (EFr_t (EFr_I (by decide)) (EFr_I (by decide))) (EFr_I (by decide))) (EFr_I (by decide))
  · exact EFr_t (EFr_I (by decide)) EFr_demand
  · exact EFr_t EFr_turn EFr_pause
  · exact EFr_t (EFr_I (by decide)) EFr_tellClient
theorem EFr_ringClient {a : AA} {c : Nat} : EFr a (A_ringClient a c) := EFr_t (EFr_if EFr_r EFr_turn) EFr_demand
theorem EFr_hp1 {a : AA} {t : Int32} : EFr a (hp1 a t) := EFr_t (EFr_I (by decide)) (EFr_I (by decide))
theorem EFr_happen {a : AA} {e : Int32 × Option Nat} : EFr a (A_happen a e).1 := by
  have hp : EFr a (aAdd (aI a 1 0 e.1) 3 0 1) := EFr_hp1
  unfold A_happen
  dsimp only
  generalize aAdd (aI a 1 0 e.1) 3 0 1 = b at hp
  split
  · split
    · exact EFr_t (EFr_t hp (EFr_I (by decide))) EFr_sync
    · split
      · exact EFr_t (EFr_t hp (EFr_I (by decide))) EFr_ring
      · exact EFr_t (EFr_t hp (EFr_I (by decide))) EFr_ringClient
  · split
    · exact EFr_r
    · rename_i x r _
      have h2 : EFr a (aWayS b r) := EFr_t hp (EFr_w AFr_way (by decide) (by decide))
      generalize aWayS b r = c at h2
      split
      · exact EFr_t h2 (EFr_I (by decide))
      · split
        · split
          · exact EFr_t h2 EFr_asked
          · exact EFr_t h2 EFr_came
        · exact EFr_t h2 EFr_hear
theorem EFr_run {till : Int32} : ∀ (n : Nat) (a : AA), EFr a (aRun till n a).1 := by
  intro n
  induction n with
  | zero => exact fun a => EFr_r
  | succ n ih =>
    intro a
    unfold aRun
    split
    · exact EFr_r
    · rename_i e _
      dsimp only
      split
      · exact EFr_t (EFr_happen (e := e)) (ih _)
      · exact EFr_r
