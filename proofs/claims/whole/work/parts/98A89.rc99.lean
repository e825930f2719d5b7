/-! clients: the events' order, letters, what a client has -/
/-- a row of askings that has gone on -/
def Kg (K L : List AK) : Prop := K.length ≤ L.length ∧ ∀ j, j < K.length → (L.getD j (fun _ => 0, [])).1 1 = (K.getD j (fun _ => 0, [])).1 1 ∧ (L.getD j (fun _ => 0, [])).2 = (K.getD j (fun _ => 0, [])).2
def cLt (K : List AK) (l : AL) : Prop := rqOK K l ∧ aInR (l.1 3) 0 6 = true
def ltP (K : List AK) (l : AL) : Prop := (∃ s, s < 7 ∧ sL s l) ∨ cLt K l
/-- what holds of a client -/
def cF (a : AA) (k : Nat) : Prop := aInR (aS a 125 k) 0 6 = true ∧ (aS a 124 k = 0 ∨ aS a 124 k = 1) ∧ (aS a 124 k = 1 → 0 ≤ aS a 137 k ∧ (aS a 137 k).toNatClampNeg < (aAk a).length) ∧ (0 ≤ aS a 29 (8 + k) → aS a 124 k = 1)
/-- servers, letters on the way, clients -/
def Wd (a : AA) : Prop := (∀ s, s < 7 → Ph s (sL s) a) ∧ (∀ x ∈ aWay a, ltP (aAk a) x.2.2) ∧ (∀ k, k < 8 → cF a k) ∧ aS a 29 7 < 0
section CL0
variable {t B c d k : Nat} {a b : AA}
theorem Kg_r {K : List AK} : Kg K K := ⟨Nat.le_refl _, fun _ _ => ⟨rfl, rfl⟩⟩
theorem Kg_set {K : List AK} {i : Nat} {q : AK} (h1 : q.1 1 = (K.getD i (fun _ => 0, [])).1 1) (h2 : q.2 = (K.getD i (fun _ => 0, [])).2) : Kg K (K.set i q) := by
  refine ⟨by rw [List.length_set]; exact Nat.le_refl _, fun j hj => ?_⟩
  by_cases z : i = j
  · subst z
    have e : (K.set i q).getD i (fun _ => 0, []) = q := by
      rw [List.getD_eq_getElem?_getD, List.getElem?_set_self hj]
      rfl
    rw [e]
    exact ⟨h1, h2⟩
  · have e : (K.set i q).getD j (fun _ => 0, []) = K.getD j (fun _ => 0, []) := by
      rw [List.getD_eq_getElem?_getD, List.getElem?_set_ne z, ← List.getD_eq_getElem?_getD]
    rw [e]
    exact ⟨rfl, rfl⟩
theorem lP_g {K L : List AK} {l : AL} (h : Kg K L) (z : ltP K l) : ltP L l := by
  rcases z with z | ⟨⟨z1, z2, z3⟩, z4⟩
  · exact Or.inl z
  · refine Or.inr ⟨⟨z1, z2, ?_⟩, z4⟩
    rcases z3 with y | ⟨y1, y2, y3, y4, y5⟩
    · exact Or.inl y
    · obtain ⟨g1, g2⟩ := h.2 _ y3
      refine Or.inr ⟨y1, y2, by have := h.1; omega, ?_, ?_⟩
      · rw [g1]
        exact y4
      · rw [g2]
        exact y5
theorem Ph_fr {W T : List Nat} {s : Nat} {Q : AL → Prop} (h : AFr W T a b) (q : dj [45, 74, 80] W = true) (q2 : dj [1, 8, 9] T = true) (z : Ph s Q a) : Ph s Q b := by
  refine ⟨?_, ?_, ?_, nRg_f h q z.2.2.2⟩
  · rw [h.2.2.2.2.2.2.2.2.2.1 (dj_m q2 (x := 8) (by decide))]
    exact z.1
  · rw [h.2.2.2.2.2.2.2.2.2.2.1 (dj_m q2 (x := 9) (by decide))]
    exact z.2.1
  · rw [h.2.2.1 (dj_m q2 (x := 1) (by decide))]
    exact z.2.2.1
theorem cF_fr (hn : ∀ f, f = 124 ∨ f = 125 ∨ f = 137 → aS b f k = aS a f k) (h29 : aS b 29 (8 + k) = aS a 29 (8 + k)) (hk : (aAk a).length ≤ (aAk b).length) (z : cF a k) : cF b k := by
  unfold cF at z ⊢
  rw [hn 124 (Or.inl rfl), hn 125 (Or.inr (Or.inl rfl)), hn 137 (Or.inr (Or.inr rfl)), h29]
  exact ⟨z.1, z.2.1, fun y => ⟨(z.2.2.1 y).1, Nat.lt_of_lt_of_le (z.2.2.1 y).2 hk⟩, z.2.2.2⟩
/-- a server's path keeps all that -/
theorem Wd_Pa {s j : Nat} (hs : s < 7) (h : Pa s (sL s) j a b) (z : Wd a) : Wd b := by
  have hO := Pa_On h
  have hn : ∀ f, f = 124 ∨ f = 125 ∨ f = 137 → ∀ i, aS b f i = aS a f i := fun f hf i => hO.1 f i (fun y => by
    have q : f ≠ 2 ∧ f ≠ 21 ∧ f ≠ 22 ∧ f ∉ sF ∧ f ≠ 29 ∧ f ≠ 30 ∧ f ≠ 31 ∧ f ≠ 32 ∧ f ≠ 71 ∧ f ∉ sc49 ∧ f ≠ 43 := by
      rcases hf with rfl | rfl | rfl <;> decide
    rcases y with y | y | y | y | y | y
    · exact q.1 y
    · exact q.2.1 y
    · exact q.2.2.1 y
    · rcases y.1 with w | w | w | w | w | w
      · exact q.2.2.2.1 w
      · exact q.2.2.2.2.1 w
      · exact q.2.2.2.2.2.1 w
      · exact q.2.2.2.2.2.2.1 w
      · exact q.2.2.2.2.2.2.2.1 w
      · exact q.2.2.2.2.2.2.2.2.1 w
    · exact q.2.2.2.2.2.2.2.2.2.1 y.1
    · exact q.2.2.2.2.2.2.2.2.2.2 y.1)
  have h29 : ∀ i, 7 ≤ i → aS b 29 i = aS a 29 i := fun i hi => hO.1 29 i (fun y => by
    rcases y with y | y | y | y | y | y
    · exact absurd y (by decide)
    · exact absurd y (by decide)
    · exact absurd y (by decide)
    · omega
    · exact absurd y.1 (by decide)
    · exact absurd y.1 (by decide))
  refine ⟨fun i hi => ?_, fun x hx => ?_, fun i hi => ?_, by rw [h29 7 (by omega)]; exact z.2.2.2⟩
  · by_cases q : i = s
    · rw [q]
      exact Pa_H h (z.1 s hs)
    · exact On_Ph hO q (z.1 i hi)
  · rw [hO.2.2.1]
    rcases Pa_way h x hx with y | y
    · exact z.2.1 x y
    · exact Or.inl ⟨s, hs, y⟩
  · exact cF_fr (fun f hf => hn f hf i) (h29 (8 + i) (by omega)) (by rw [hO.2.2.1]; exact Nat.le_refl _) (z.2.2.1 i hi)
/-- a bell falls silent -/
theorem Ev_quiet {e : Nat} (h : Ev t B c d a) (he : e < 16) : Ev t B c d (aI a 29 e (-1)) := by
  have e0 : ∀ f, f ≠ 29 → ∀ i, aS (aI a 29 e (-1)) f i = aS a f i := fun f hf i => aS_If hf
  have en : ∀ x, aBn (aI a 29 e (-1)) x = if x = e then -1 else aBn a x := by
    intro x
    unfold aBn
    by_cases q : x < 16
    · rw [if_pos q, if_pos q]
      by_cases z : x = e
      · rw [z, evI_e, if_pos rfl]
      · rw [evI_i z, if_neg z]
    · rw [if_neg q, if_neg q, if_neg (by omega), e0 31 (by decide)]
  have et : aBt (aI a 29 e (-1)) = aBt a := by
    funext x
    unfold aBt
    rw [e0 30 (by decide), e0 32 (by decide)]
  have n1 : ¬ 0 ≤ (-1 : Int32).toInt := by decide
  obtain ⟨e1, e2, e3, e4, e5, e6, e7, e8, e9, e10, e11, e12, e13⟩ := h
  refine ⟨⟨(congrArg Int32.toInt (e0 1 (by decide) 0)).trans e1.1, e1.2⟩, ?_, ?_, ?_, e5, e6, ?_, ?_, ?_, ?_, ?_, ?_, ?_⟩
  · have eR : drt (aI a 29 e (-1)) = drt a := sumN_eq 7 (fun x _ => by rw [e0 71 (by decide)])
    rw [e0 2 (by decide), eR]
    exact e2
  · intro x hx
    rw [e0 2 (by decide)]
    exact e3 x hx
  · intro x hx h0
    rw [en] at h0 ⊢
    rw [et, e0 2 (by decide)]
    by_cases z : x = e
    · rw [if_pos z] at h0
      exact absurd h0 n1
    · rw [if_neg z] at h0 ⊢
      exact e4 x hx h0
  · intro x hx y hy h0
    rw [en] at h0 ⊢
    by_cases z : y = e
    · rw [if_pos z] at h0
      exact absurd h0 n1
    · rw [if_neg z] at h0 ⊢
      exact e7 x hx y hy h0
  · intro x y hx hy hne h0
    rw [en] at h0 ⊢
    rw [en]
    by_cases z : x = e
    · rw [if_pos z] at h0
      exact absurd h0 n1
    · rw [if_neg z] at h0 ⊢
      by_cases w : y = e
      · rw [if_pos w]
        intro r
        rw [r] at h0
        exact absurd h0 n1
      · rw [if_neg w]
        exact e8 x y hx hy hne h0
  · intro i
    rw [e0 23 (by decide)]
    exact e9 i
  · intro i hi
    rw [e0 72 (by decide)]
    exact e10 i hi
  · rw [e0 27 (by decide)]
    exact e11
  · intro i hi
    rw [e0 31 (by decide), e0 71 (by decide)]
    exact e12 i hi
  · have hd : dueB t (aI a 29 e (-1)) ≤ dueB t a := by
      refine sumN_le 16 (fun x _ => ?_)
      rw [e0 30 (by decide)]
      by_cases z : x = e
      · rw [z, evI_e, if_neg (fun y => absurd y.1 n1)]
        exact Nat.zero_le _
      · rw [evI_i z]
        exact Nat.le_refl _
    show dueW t (aWay a) + dueB t (aI a 29 e (-1)) ≤ d
    omega
theorem Ev_ak {v : List AK} (h : Ev t B c d a) : Ev t B c d (aAkS a v) := h
theorem Ev_nn {f i : Nat} {v : Int32} (hf : dj evF [f] = true) (h : Ev t B c d a) : Ev t B c d (aI a f i v) := Ev_fr AFr_I hf (by decide) h
theorem Ev_tellC {w p : Int32} (h : Ev t B c d a) (hk : k < 8) : Ev t B c d (aTellClient a k w p) := Ev_quiet (Ev_nn (by decide) (Ev_nn (by decide) (Ev_ak h))) (by omega)
theorem Ev_resign (h : Ev t B c d a) (hk : k < 8) : Ev t B c d (A_resign a k) := by
  unfold A_resign
  split
  · exact Ev_tellC (Ev_nn (by decide) h) hk
  · exact Ev_tellC h hk
theorem Ev_al {e n : Nat} (h : Ev t B c d a) (he : e < 16) (h1 : 0 < n) (h2 : n ≤ 100) (hc : c + 1 + 200 < 2147483648) : Ev t B (c + 1) d (A_alarm a e (aNow a + Int32.ofNat n)) := by
  have z1 := h.1
  refine Ev_alarm h he ?_ hc
  rw [i_add (by rw [Int32.toInt_ofNat_of_lt (by omega)]; omega) (by rw [Int32.toInt_ofNat_of_lt (by omega)]; omega), Int32.toInt_ofNat_of_lt (by omega)]
  omega
theorem Ev_demand (h : Ev t B c d a) (hk : k < 8) (hc : c + 1 + 200 < 2147483648) : Ev t B (c + 1) d (A_demand a k) := by
  have h1 : Ev t B c d (aAdd a 129 k 1) := Ev_nn (by decide) h
  unfold A_demand
  dsimp only
  split
  · exact Ev_w (by omega) hc (Nat.le_refl _) (Ev_resign h1 hk)
  · refine Ev_nn (by decide) ?_
    have key : ∀ l, Ev t B (c + 1) d (A_alarm (A_sendOut (aAdd a 129 k 1) l) (8 + k) (aNow (aAdd a 129 k 1) + 60)) := by
      intro l
      have e : aNow (A_sendOut (aAdd a 129 k 1) l) = aNow (aAdd a 129 k 1) := AFr_sendOut.1 1 (by decide) 0
      rw [← e]
      exact Ev_al (n := 60) (Ev_out h1) (by omega) (by decide) (by decide) hc
    exact key _
theorem Ev_pause {n : Nat} (h : Ev t B c d a) (hk : k < 8) (h1 : 0 < n) (h2 : n ≤ 100) (hc : c + 1 + 200 < 2147483648) : Ev t B (c + 1) d (A_pause a k (Int32.ofNat n)) := Ev_nn (by decide) (Ev_al h (by omega) h1 h2 hc)
theorem Ev_hear {l : AL} (h : Ev t B c d a) (hk : k < 8) (hc : c + 1 + 200 < 2147483648) : Ev t B (c + 1) d (A_hear a k l) := by
  have w : ∀ {b : AA}, Ev t B c d b → Ev t B (c + 1) d b := fun hb => Ev_w (by omega) hc (Nat.le_refl _) hb
  unfold A_hear
  split
  · exact w h
  · split
    · split
      · exact w (Ev_tellC (Ev_fr (W := []) AFr_dn (by decide) (by decide) h) hk)
      · exact Ev_demand (Ev_nn (by decide) (Ev_nn (by decide) (Ev_nn (by decide) (Ev_nn (by decide) h)))) hk hc
    · split
      · split
        · exact Ev_demand (Ev_nn (by decide) h) hk hc
        · exact Ev_pause (n := 5) (Ev_nn (by decide) h) hk (by decide) (by decide) hc
      · split
        · exact w (Ev_tellC (Ev_nn (by decide) h) hk)
        · exact Ev_pause (n := 20) h hk (by decide) (by decide) hc
theorem Ev_ringC (h : Ev t B c d a) (hk : k < 8) (hc : c + 1 + 200 < 2147483648) : Ev t B (c + 1) d (A_ringClient a k) := by
  unfold A_ringClient
  refine Ev_demand ?_ hk hc
  split
  · exact h
  · exact Ev_nn (by decide) h
/-! servers, letters, clients -/
theorem Wd_nn {f i : Nat} {v : Int32} (hf : f ≠ 45 ∧ f ≠ 74 ∧ f ≠ 80 ∧ f ≠ 124 ∧ f ≠ 125 ∧ f ≠ 137 ∧ f ≠ 29) (h : Wd a) : Wd (aI a f i v) := by
  have e : ∀ g, g ≠ f → ∀ j, aS (aI a f i v) g j = aS a g j := fun g hg j => aS_If hg
  refine ⟨fun s hs => ?_, h.2.1, fun k hk => cF_fr (fun g hg => e g ?_ k) (e 29 (fun z => hf.2.2.2.2.2.2 z.symm) _) (Nat.le_refl _) (h.2.2.1 k hk), by rw [e 29 (fun z => hf.2.2.2.2.2.2 z.symm)]; exact h.2.2.2⟩
  · have z := h.1 s hs
    refine ⟨z.1, z.2.1, z.2.2.1, ?_⟩
    unfold nRg
    rw [e 45 (fun y => hf.1 y.symm), e 74 (fun y => hf.2.1 y.symm), e 80 (fun y => hf.2.2.1 y.symm)]
    exact z.2.2.2
  · rcases hg with rfl | rfl | rfl
    · exact fun z => hf.2.2.2.1 z.symm
    · exact fun z => hf.2.2.2.2.1 z.symm
    · exact fun z => hf.2.2.2.2.2.1 z.symm
theorem Wd_125 {v : Int32} (hv : aInR v 0 6 = true) (h : Wd a) : Wd (aI a 125 k v) := by
  refine ⟨fun s hs => Ph_fr AFr_I (by decide) (by decide) (h.1 s hs), h.2.1, fun i hi => ?_, by rw [aS_If (by decide)]; exact h.2.2.2⟩
  obtain ⟨z1, z2, z3, z4⟩ := h.2.2.1 i hi
  have e : ∀ g, g ≠ 125 → ∀ j, aS (aI a 125 k v) g j = aS a g j := fun g hg j => aS_If hg
  refine ⟨?_, ?_, ?_, ?_⟩
  · by_cases q : i = k
    · rw [q, evI_e]
      exact hv
    · rw [evI_i q]
      exact z1
  · rw [e 124 (by decide)]
    exact z2
  · rw [e 124 (by decide), e 137 (by decide)]
    exact z3
  · rw [e 124 (by decide), e 29 (by decide)]
    exact z4
theorem Wd_turn (h : Wd a) (hk : k < 8) : Wd (aTurn a k) := by
  unfold aTurn
  refine Wd_125 ?_ h
  obtain ⟨p, hp, e⟩ := inR_s (h.2.2.1 k hk).1
  rw [e]
  exact (by decide : ∀ p, p < 7 → aInR (if Int32.ofNat p + 1 < 7 then Int32.ofNat p + 1 else 0) 0 6 = true) p hp
theorem Wd_tellC {w p : Int32} (h : Wd a) (hk : k < 8) : Wd (aTellClient a k w p) := by
  have hg : Kg (aAk a) (aAk (aTellClient a k w p)) := Kg_set rfl rfl
  have hF : AFr [141, 124, 29] [10] a (aTellClient a k w p) := AFr_w (AFr_t (AFr_t (AFr_t AFr_ak AFr_I) AFr_I) AFr_I) (by decide) (by decide)
  refine ⟨fun s hs => Ph_fr hF (by decide) (by decide) (h.1 s hs), fun x hx => lP_g hg (h.2.1 x (by rw [hF.2.1 (by decide)] at hx; exact hx)), fun i hi => ?_, ?_⟩
  rotate_left
  · unfold aTellClient
    dsimp only
    rw [evI_i (by omega), aS_If (by decide)]
    exact h.2.2.2
  have z := h.2.2.1 i hi
  have e124 : ∀ j, aS (aTellClient a k w p) 124 j = if j = k then 0 else aS a 124 j := by
    intro j
    unfold aTellClient
    dsimp only
    rw [aS_If (by decide)]
    by_cases q : j = k
    · rw [q, evI_e, if_pos rfl]
    · rw [evI_i q, if_neg q]
      exact aS_If (by decide)
  have e29 : ∀ j, aS (aTellClient a k w p) 29 j = if j = 8 + k then -1 else aS a 29 j := by
    intro j
    unfold aTellClient
    dsimp only
    by_cases q : j = 8 + k
    · rw [q, evI_e, if_pos rfl]
    · rw [evI_i q, if_neg q, aS_If (by decide)]
      exact aS_If (by decide)
  by_cases q : i = k
  · subst q
    refine ⟨?_, ?_, ?_, ?_⟩
    · rw [hF.1 125 (by decide)]
      exact z.1
    · rw [e124, if_pos rfl]
      exact Or.inl rfl
    · rw [e124, if_pos rfl]
      exact fun y => absurd y (by decide)
    · rw [e29, if_pos rfl]
      exact fun y => absurd y (by decide)
  · refine cF_fr (fun f hf => ?_) (by rw [e29, if_neg (by omega)]) hg.1 z
    rcases hf with rfl | rfl | rfl
    · rw [e124, if_neg q]
    · exact hF.1 125 (by decide) i
    · exact hF.1 137 (by decide) i
theorem Wd_resign (h : Wd a) (hk : k < 8) : Wd (A_resign a k) := by
  unfold A_resign
  split
  · exact Wd_tellC (Wd_nn (by decide) h) hk
  · exact Wd_tellC h hk
theorem Wd_out {l : AL} (h : Wd a) (hl : ltP (aAk a) l) : Wd (A_sendOut a l) := by
  have hF := AFr_sendOut (a := a) (l := l)
  have ek : aAk (A_sendOut a l) = aAk a := hF.2.2.2.2.2.2.2.2.2.2.2.1 (by decide)
  refine ⟨fun s hs => Ph_fr hF (by decide) (by decide) (h.1 s hs), fun x hx => ?_, fun i hi => cF_fr (fun f hf => ?_) (hF.1 29 (by decide) _) (by rw [ek]; exact Nat.le_refl _) (h.2.2.1 i hi), by rw [hF.1 29 (by decide)]; exact h.2.2.2⟩
  · rw [ek]
    rcases out_way hx with r | r
    · exact h.2.1 x r
    · rw [r]
      exact hl
  · rcases hf with rfl | rfl | rfl
    · exact hF.1 124 (by decide) i
    · exact hF.1 125 (by decide) i
    · exact hF.1 137 (by decide) i
theorem Wd_al {u : Int32} (h : Wd a) (hk : k < 8) (h1 : aS a 124 k = 1) : Wd (A_alarm a (8 + k) u) := by
  have hF := AFr_alarm (a := a) (e := 8 + k) (t := u)
  have h7 : aS (A_alarm a (8 + k) u) 29 7 < 0 := by
    have en := al_n (a := a) (e := 8 + k) (x := 7) (u := u) (by omega)
    unfold aBn at en
    rw [if_pos (by omega), if_neg (by omega), if_pos (by omega)] at en
    rw [en]
    exact h.2.2.2
  refine ⟨fun s hs => Ph_fr hF (by decide) (by decide) (h.1 s hs), h.2.1, fun i hi => ?_, h7⟩
  have z := h.2.2.1 i hi
  have e : ∀ f, f ≠ 2 → f ≠ 29 → f ≠ 30 → aS (A_alarm a (8 + k) u) f i = aS a f i := fun f y1 y2 y3 => hF.1 f (by simp [y1, y2, y3]) i
  refine ⟨?_, ?_, ?_, ?_⟩
  · rw [e 125 (by decide) (by decide) (by decide)]
    exact z.1
  · rw [e 124 (by decide) (by decide) (by decide)]
    exact z.2.1
  · rw [e 124 (by decide) (by decide) (by decide), e 137 (by decide) (by decide) (by decide)]
    exact z.2.2.1
  · rw [e 124 (by decide) (by decide) (by decide)]
    intro y
    by_cases q : i = k
    · rw [q]
      exact h1
    · refine z.2.2.2 ?_
      have en := al_n (a := a) (e := 8 + k) (x := 8 + i) (u := u) (by omega)
      unfold aBn at en
      rw [if_pos (by omega), if_neg (by omega), if_pos (by omega)] at en
      rw [← en]
      exact y
theorem cl_p : ∀ k, k < 8 → aInR (Int32.ofNat (8 + k)) 8 15 = true := by decide
theorem Wd_demand (h : Wd a) (hk : k < 8) (h1 : aS a 124 k = 1) : Wd (A_demand a k) := by
  have g : Wd (aAdd a 129 k 1) := Wd_nn (by decide) h
  have e1 : aS (aAdd a 129 k 1) 124 k = 1 := (aS_If (by decide)).trans h1
  obtain ⟨z1, z2, z3, z4⟩ := h.2.2.1 k hk
  obtain ⟨y1, y2⟩ := z3 h1
  have key : ∀ l, ltP (aAk a) l → Wd (aI (A_alarm (A_sendOut (aAdd a 129 k 1) l) (8 + k) (aNow (aAdd a 129 k 1) + 60)) 130 k 1) := fun l hl => Wd_nn (by decide) (Wd_al (Wd_out g hl) hk ((AFr_sendOut.1 124 (by decide) k).trans e1))
  unfold A_demand
  dsimp only
  by_cases q40 : 40 < aS (aAdd a 129 k 1) 129 k
  · rw [if_pos q40]
    exact Wd_resign g hk
  · rw [if_neg q40]
    refine key _ (Or.inr ⟨⟨rfl, cl_p k hk, ?_⟩, z1⟩)
    by_cases o : aS a 131 k = 0
    · have eo : (!decide (aS a 131 k = 0)) = false := by rw [decide_eq_true o]; rfl
      rw [eo]
      right
      have ecmd : aCmd a k = decide (((aAk a).getD (aS a 137 k).toNatClampNeg (fun _ => 0, [])).1 1 < 3) := rfl
      refine ⟨?_, y1, y2, ?_, rfl⟩
      · show (if aCmd a k = true then (1 : Int32) else 2) = 1 ∨ (if aCmd a k = true then (1 : Int32) else 2) = 2
        split
        · exact Or.inl rfl
        · exact Or.inr rfl
      · show _ ↔ (if aCmd a k = true then (1 : Int32) else 2) = 1
        rw [ecmd]
        by_cases q : ((aAk a).getD (aS a 137 k).toNatClampNeg (fun _ => 0, [])).1 1 < 3
        · rw [if_pos (decide_eq_true q)]
          exact ⟨fun _ => rfl, fun _ => q⟩
        · rw [decide_eq_false q]
          exact ⟨fun y => absurd y q, fun y => absurd y (by decide)⟩
    · have eo : (!decide (aS a 131 k = 0)) = true := by rw [decide_eq_false o]; rfl
      rw [eo]
      left
      exact ⟨rfl, rfl, rfl⟩
theorem Wd_pause {u : Int32} (h : Wd a) (hk : k < 8) (h1 : aS a 124 k = 1) : Wd (A_pause a k u) := Wd_nn (by decide) (Wd_al h hk h1)
theorem Wd_dn {v : List Int32} (h : Wd a) : Wd (aDnS a k v) := h
theorem Wd_hear {l : AL} (h : Wd a) (hk : k < 8) (hl : l.1 4 = 11 → l.1 6 = 1 → 0 ≤ l.1 7 → aInR (l.1 7) 0 6 = true) (h11 : l.1 4 = 11) : Wd (A_hear a k l) := by
  unfold A_hear
  split
  · exact h
  · rename_i q
    have h1 : aS a 124 k = 1 := by
      rcases (h.2.2.1 k hk).2.1 with y | y
      · exact absurd (Or.inl y) q
      · exact y
    have n : ∀ {b : AA} {f : Nat} {v : Int32}, f ≠ 124 → aS b 124 k = 1 → aS (aI b f k v) 124 k = 1 := fun hf hb => (aS_If (fun z => hf z.symm)).trans hb
    split
    · split
      · exact Wd_tellC (Wd_dn h) hk
      · exact Wd_demand (Wd_nn (by decide) (Wd_nn (by decide) (Wd_nn (by decide) (Wd_nn (by decide) h)))) hk (n (by decide) (n (by decide) (n (by decide) (n (by decide) h1))))
    · split
      · rename_i q6
        split
        · rename_i q7
          exact Wd_demand (Wd_125 (hl h11 q6 q7) h) hk (n (by decide) h1)
        · exact Wd_pause (Wd_turn h hk) hk (n (by decide) h1)
      · split
        · exact Wd_tellC (Wd_nn (by decide) h) hk
        · exact Wd_pause h hk h1
theorem Wd_ringC (h : Wd a) (hk : k < 8) (h1 : aS a 124 k = 1) : Wd (A_ringClient a k) := by
  unfold A_ringClient
  split
  · exact Wd_demand h hk h1
  · exact Wd_demand (Wd_turn h hk) hk ((aS_If (by decide)).trans h1)
end CL0
