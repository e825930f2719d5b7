/-! facts about the states between: where the reference has been -/
def RX (a : AA) : Prop := ∃ σ u, RM σ a u ∧ ∀ k, u.2 k
theorem RX_W {a : AA} {s : Nat} (x : RX a) (hs : s < 7) : aLoc a ∧ WLg a s ∧ (aS a 52 s = 1 → WCh a s) ∧ WMk a s ∧ (aS a 73 s = 3 → WLd a s) := by
  obtain ⟨σ, u, h, hu⟩ := x
  obtain ⟨_, _, _, _, _, _, _, _, _, _, _, _, _, _, _, _, _, _, _, hloc, hwl, hwc, hwm, hwd⟩ := h
  exact ⟨hloc, hwl s hs, hwc s hs (hu s), hwm s hs (hu (14 + s)), hwd s hs (hu (7 + s))⟩
theorem RX_down {a : AA} {s : Nat} {t l : Int32} (x : RX a) (hs : s < 7) (hw : wN a < 2147483647) : RX (A_stepDown a s t l) := by
  obtain ⟨σ, u, h, hu⟩ := x
  obtain ⟨τ, _, h2⟩ := M_stepDown (F := 20000) (t := t) (l := l) (by omega) h hs hw
  exact ⟨τ, u, h2, hu⟩
theorem RX_campaign {a : AA} {s : Nat} (x : RX a) (hs : s < 7) (hw : wN a < 2147483647) : RX (A_campaign a s) := by
  obtain ⟨σ, u, h, hu⟩ := x
  obtain ⟨τ, _, h2⟩ := M_campaign (F := 20000) (by omega) h hs hw
  exact ⟨τ, u, h2, hu⟩
theorem RX_reads {a : AA} {s : Nat} (x : RX a) (hs : s < 7) (hmx : (aS a 151 s).toInt < 2147483000) : RX (A_answerReads a s) := by
  obtain ⟨σ, u, h, hu⟩ := x
  obtain ⟨τ, _, h2⟩ := M_answerReads (F := 20000) (by omega) h hs hmx
  exact ⟨τ, u, h2, hu⟩
theorem RX_sendAll {a : AA} {s : Nat} {bt : Bool} (x : RX a) (hs : s < 7) (hr : aS a 73 s = 3) : RX (A_sendAll a s bt) := by
  obtain ⟨σ, u, h, hu⟩ := x
  obtain ⟨τ, _, h2⟩ := M_sendAll (F := 20000) (bt := bt) (by omega) h hs (hu (7 + s)) hr
  exact ⟨τ, u, h2, hu⟩
theorem RX_apply {a : AA} {s : Nat} (x : RX a) (hs : s < 7) (hup : aS a 52 s = 1) (hd : dRq a s) (hmx : (aS a 151 s).toInt < 2147483000) : RX (A_apply a s) := by
  obtain ⟨σ, u, h, hu⟩ := x
  obtain ⟨τ, _, h2⟩ := M_apply (F := 20000) (by omega) h hs hup (hu s) (hu (14 + s)) hd hmx
  exact ⟨τ, u, h2, hu⟩
theorem RX_alarm {a : AA} {s : Nat} (x : RX a) (hs : s < 7) : RX (A_drawAlarm a s) := by
  obtain ⟨σ, u, h, hu⟩ := x
  obtain ⟨τ, _, h2⟩ := M_drawAlarm (s := s) h hs
  exact ⟨τ, u, h2, hu⟩
