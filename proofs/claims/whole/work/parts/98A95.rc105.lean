/-! of a server that is down nothing is awaited; a run -/
def Dn (a : AA) : Prop := ∀ i, i < 7 → aS a 52 i = 0 → aS a 31 i < 0 ∧ aS a 29 i < 0
/-- what clients leave as it was -/
def D3 (a b : AA) : Prop := ∀ i, i < 7 → aS b 29 i = aS a 29 i ∧ aS b 31 i = aS a 31 i ∧ aS b 52 i = aS a 52 i
section RN0
variable {t B B' c d k s : Nat} {a b x : AA} {P : AL → Prop} {e : Int32 × Option Nat}
theorem D3_r : D3 a a := fun _ _ => ⟨rfl, rfl, rfl⟩
theorem D3_t (h : D3 a b) (h' : D3 b x) : D3 a x := fun i hi => ⟨(h' i hi).1.trans (h i hi).1, (h' i hi).2.1.trans (h i hi).2.1, (h' i hi).2.2.trans (h i hi).2.2⟩
theorem D3_Dn (h : D3 a b) (z : Dn a) : Dn b := by
  intro i hi h0
  obtain ⟨y1, y2, y3⟩ := h i hi
  rw [y3] at h0
  rw [y1, y2]
  exact z i hi h0
theorem D3_fr {W T : List Nat} (h : AFr W T a b) (q : dj [29, 31, 52] W = true) : D3 a b := fun i _ => ⟨h.1 29 (dj_m q (by decide)) i, h.1 31 (dj_m q (by decide)) i, h.1 52 (dj_m q (by decide)) i⟩
theorem D3_I {f i : Nat} {v : Int32} (q : dj [29, 31, 52] [f] = true) : D3 a (aI a f i v) := D3_fr AFr_I q
theorem D3_q {v : Int32} : D3 a (aI a 29 (8 + k) v) := fun i hi => ⟨evI_i (by omega), aS_If (by decide), aS_If (by decide)⟩
theorem D3_al {u : Int32} (hk : k < 8) : D3 a (A_alarm a (8 + k) u) := by
  intro i hi
  have en := al_n (a := a) (e := 8 + k) (x := i) (u := u) (by omega)
  unfold aBn at en
  rw [if_pos (by omega), if_neg (by omega), if_pos (by omega)] at en
  exact ⟨en, AFr_alarm.1 31 (by decide) i, AFr_alarm.1 52 (by decide) i⟩
theorem D3_tell {w p : Int32} : D3 a (aTellClient a k w p) := D3_t (D3_fr (AFr_t (AFr_t AFr_ak AFr_I) AFr_I) (by decide)) D3_q
theorem D3_resign : D3 a (A_resign a k) := by
  unfold A_resign
  split
  · exact D3_t (D3_I (by decide)) D3_tell
  · exact D3_tell
theorem D3_demand (hk : k < 8) : D3 a (A_demand a k) := by
  unfold A_demand
  dsimp only
  split
  · exact D3_t (D3_I (by decide)) D3_resign
  · exact D3_t (D3_t (D3_t (D3_I (by decide)) (D3_fr AFr_sendOut (by decide))) (D3_al hk)) (D3_I (by decide))
theorem D3_pause {u : Int32} (hk : k < 8) : D3 a (A_pause a k u) := D3_t (D3_al hk) (D3_I (by decide))
theorem D3_hear {l : AL} (hk : k < 8) : D3 a (A_hear a k l) := by
  unfold A_hear
  split
  · exact D3_r
  · split
    · split
      · exact D3_t (D3_fr AFr_dn (by decide)) D3_tell
      · exact D3_t (D3_t (D3_t (D3_t (D3_I (by decide)) (D3_I (by decide))) (D3_I (by decide))) (D3_I (by decide))) (D3_demand hk)
    · split
      · split
        · exact D3_t (D3_I (by decide)) (D3_demand hk)
        · exact D3_t (D3_I (by decide)) (D3_pause hk)
      · split
        · exact D3_t (D3_I (by decide)) D3_tell
        · exact D3_pause hk
theorem D3_ringC (hk : k < 8) : D3 a (A_ringClient a k) := by
  unfold A_ringClient
  split
  · exact D3_demand hk
  · exact D3_t (D3_I (by decide)) (D3_demand hk)
theorem On_52 (h : On s a b) (i : Nat) : aS b 52 i = aS a 52 i := h.1 52 i (fun y => by
  rcases y with y | y | y | y | y | y
  · exact absurd y (by decide)
  · exact absurd y (by decide)
  · exact absurd y (by decide)
  · rcases y.1 with w | w | w | w | w | w
    · exact absurd w (by decide)
    · exact absurd w (by decide)
    · exact absurd w (by decide)
    · exact absurd w (by decide)
    · exact absurd w (by decide)
    · exact absurd w (by decide)
  · exact absurd y.1 (by decide)
  · exact absurd y.1 (by decide))
theorem On_2931 (h : On s a b) {i f : Nat} (hi : i ≠ s) (hf : f = 29 ∨ f = 31) : aS b f i = aS a f i := h.1 f i (fun y => by
  rcases y with y | y | y | y | y | y
  · omega
  · omega
  · omega
  · exact hi y.2
  · rcases hf with r | r
    · rw [r] at y
      exact absurd y.1 (by decide)
    · rw [r] at y
      exact absurd y.1 (by decide)
  · omega)
theorem Dn_Pa (h : Pa s P k a b) (hu : ¬ aS a 52 s = 0) (z : Dn a) : Dn b := by
  have hO := Pa_On h
  intro i hi h0
  rw [On_52 hO] at h0
  have hne : i ≠ s := fun y => hu (by rw [← y]; exact h0)
  rw [On_2931 hO hne (Or.inr rfl), On_2931 hO hne (Or.inl rfl)]
  exact z i hi h0
theorem Dn_29 {i : Nat} (z : Dn a) : Dn (aI a 29 i (-1)) := by
  intro j hj h0
  rw [aS_If (by decide)] at h0
  obtain ⟨z1, z2⟩ := z j hj h0
  rw [aS_If (by decide)]
  refine ⟨z1, ?_⟩
  by_cases q : j = i
  · rw [q, evI_e]
    decide
  · rw [evI_i q]
    exact z2
theorem Dn_31 {i : Nat} (z : Dn a) : Dn (aI a 31 i (-1)) := by
  intro j hj h0
  rw [aS_If (by decide)] at h0
  obtain ⟨z1, z2⟩ := z j hj h0
  have e29 : aS (aI a 31 i (-1)) 29 j = aS a 29 j := aS_If (by decide)
  rw [e29]
  refine ⟨?_, z2⟩
  by_cases q : j = i
  · rw [q, evI_e]
    decide
  · rw [evI_i q]
    exact z1
theorem Dn_hp {v : Int32} (z : Dn a) : Dn (hp1 a v) := D3_Dn (D3_t (D3_I (by decide)) (D3_I (by decide))) z
theorem Dn_way {r : List AP} (z : Dn a) : Dn (aWayS a r) := z
theorem Dn_happen (w : Wd a) (hp : (aWay a).Pairwise apLt) (hn : aNext a = some e) (z : Dn a) : Dn (A_happen a e).1 := by
  obtain ⟨_, _, m3⟩ := nx_min hp hn
  have w1 : Wd (hp1 a e.1) := Wd_hp w
  have z1 : Dn (hp1 a e.1) := Dn_hp z
  have neg : ∀ {y : Int32}, y < 0 → ¬ 0 ≤ y.toInt := fun h h' => by
    rw [Int32.lt_iff_toInt_lt, i_0] at h
    omega
  have e0 : ∀ f, f ≠ 1 → f ≠ 3 → ∀ i, aS (hp1 a e.1) f i = aS a f i := fun f y1 y2 i => (aS_If y2).trans (aS_If y1)
  obtain ⟨v, o⟩ := e
  dsimp only at w1 z1 e0
  cases o with
  | some i =>
    obtain ⟨q1, q2, q3⟩ := m3
    rw [hap_b]
    unfold aBn at q2
    by_cases q16 : 16 ≤ i
    · rw [if_pos q16]
      rw [if_neg (by omega)] at q2
      have hs : i - 16 < 7 := by omega
      have hu : ¬ aS (aI (hp1 a v) 31 (i - 16) (-1)) 52 (i - 16) = 0 := by
        rw [aS_If (by decide), e0 52 (by decide) (by decide)]
        exact fun y => neg (z _ hs y).1 q2
      have w2 : Wd (aI (hp1 a v) 31 (i - 16) (-1)) := Wd_nn (by decide) w1
      exact Dn_Pa (Pa_sync (w2.1 _ hs) hs (by rw [evI_e]; decide)) hu (Dn_31 z1)
    · rw [if_neg q16]
      rw [if_pos (by omega)] at q2
      have w2 : Wd (aI (hp1 a v) 29 i (-1)) := Wd_quiet w1
      by_cases q8 : i < 8
      · rw [if_pos q8]
        have hs : i < 7 := by
          by_cases y : i = 7
          · rw [y] at q2
            exact absurd q2 (neg w.2.2.2)
          · omega
        have hu : ¬ aS (aI (hp1 a v) 29 i (-1)) 52 i = 0 := by
          rw [aS_If (by decide), e0 52 (by decide) (by decide)]
          exact fun y => neg (z _ hs y).2 q2
        exact Dn_Pa (Pa_ring (w2.1 _ hs) hs) hu (Dn_29 z1)
      · rw [if_neg q8]
        exact D3_Dn (D3_ringC (by omega)) (Dn_29 z1)
  | none =>
    obtain ⟨y, r, q1, q2⟩ := m3
    have q2 : y.1 = v := q2
    subst q2
    rw [hap_l q1]
    have w2 : Wd (aWayS (hp1 a y.1) r) := Wd_take w1 (show aWay (hp1 a y.1) = y :: r from q1)
    have z2 : Dn (aWayS (hp1 a y.1) r) := Dn_way z1
    have hl := w.2.1 y (by rw [q1]; exact List.mem_cons_self)
    generalize aWayS (hp1 a y.1) r = a2 at w2 z2 ⊢
    by_cases g1 : A_parted a2 (y.2.2.1 2) (y.2.2.1 3) = true ∨ (y.2.2.1 3 < 7 ∧ aS a2 52 (y.2.2.1 3).toNatClampNeg = 0)
    · rw [if_pos g1]
      exact D3_Dn (D3_I (by decide)) z2
    · rw [if_neg g1]
      by_cases q7 : y.2.2.1 3 < 7
      · rw [if_pos q7]
        have hu : ¬ aS a2 52 (y.2.2.1 3).toNatClampNeg = 0 := fun r => g1 (Or.inr ⟨q7, r⟩)
        rcases hl with ⟨s', hs', y1, y2, y3, y4⟩ | ⟨y1, y2⟩
        · have yr : aInR (y.2.2.1 3) 0 6 = true := by
            rcases y2 with r | r
            · exact r
            · exact absurd q7 (ev_ge r.1).1
          have hs := inR_lt yr
          dsimp only
          rw [if_neg y3]
          exact Dn_Pa (Pa_came (l := y.2.2) (w2.1 _ hs) hs (by rw [y1]; exact inR_p s' hs')) hu z2
        · have hs := inR_lt y2
          dsimp only
          rw [if_pos y1.1]
          exact Dn_Pa (Pa_asked (l := y.2.2) (w2.1 _ hs) y1.2.1) hu z2
      · rw [if_neg q7]
        rcases hl with ⟨s', hs', y1, y2, y3, y4⟩ | ⟨y1, y2⟩
        · rcases y2 with r | r
          · exact absurd (ev_lt r) q7
          · exact D3_Dn (D3_hear (ev_ge r.1).2) z2
        · exact absurd (ev_lt y2) q7
/-- a run keeps it all -/
theorem EW_run {till : Int32} (hB : till.toInt + 2001 ≤ (B : Int)) : ∀ (n : Nat) (a : AA) (t c d : Nat), Ev t B c d a → Wd a → Dn a → c + 4 * n + 200 < 2147483648 → ∃ u d', t ≤ u ∧ ((u : Int) ≤ till.toInt ∨ u = t) ∧ Ev u B (c + 4 * n) d' (aRun till n a).1 ∧ Wd (aRun till n a).1 ∧ Dn (aRun till n a).1 := by
  intro n
  induction n with
  | zero => exact fun a t c d h w z _ => ⟨t, d, Nat.le_refl _, Or.inr rfl, h, w, z⟩
  | succ n ih =>
    intro a t c d h w z hc
    have stop : ∃ u d', t ≤ u ∧ ((u : Int) ≤ till.toInt ∨ u = t) ∧ Ev u B (c + 4 * (n + 1)) d' a ∧ Wd a ∧ Dn a := ⟨t, d, Nat.le_refl _, Or.inr rfl, Ev_w (by omega) hc (Nat.le_refl _) h, w, z⟩
    unfold aRun
    cases en : aNext a with
    | none => exact stop
    | some e =>
      dsimp only
      by_cases q : e.1 ≤ till
      · rw [if_pos q]
        rw [Int32.le_iff_toInt_le] at q
        obtain ⟨u, e1, e2, e3, e4⟩ := EW_happen h w en (Nat.le_refl B) (by omega) h.1.2.2.1 (by omega)
        obtain ⟨h2, w2⟩ := e4 (dueW u (aWay a) + dueB u a) (Nat.le_add_right _ _)
        have z2 := Dn_happen w h.2.2.2.2.2.1 en z
        obtain ⟨u', d', r1, r2, r3, r4, r5⟩ := ih _ u (c + 4) _ h2 w2 z2 (by omega)
        refine ⟨u', d', by omega, ?_, ?_, r4, r5⟩
        · rcases r2 with r | r
          · exact Or.inl r
          · left
            omega
        · have ec : c + 4 * (n + 1) = c + 4 + 4 * n := by omega
          rw [ec]
          exact r3
      · rw [if_neg q]
        exact stop
end RN0
