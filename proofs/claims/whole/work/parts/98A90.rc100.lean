/-! what happens next is the first; an event keeps the order, the letters, the clients -/
section HP0
variable {t u B B' c d k : Nat} {a b : AA} {e : Int32 × Option Nat}
theorem aBell_no : ∀ {n : Nat}, aBell a n = none → ∀ b, b < n → ¬ 0 ≤ aBn a b := by
  intro n
  induction n with
  | zero => exact fun _ b hb => by omega
  | succ n ih =>
    intro h b hb
    unfold aBell at h
    cases q : aBell a n with
    | none =>
      rw [q] at h
      dsimp only at h
      by_cases z : 0 ≤ aBn a n
      · rw [if_pos z] at h
        cases h
      · by_cases y : b = n
        · rw [y]
          exact z
        · exact ih q b (by omega)
    | some f =>
      rw [q] at h
      dsimp only at h
      split at h <;> cases h
theorem aBell_min : ∀ {n f : Nat}, aBell a n = some f → ∀ b, b < n → 0 ≤ aBn a b → (aBt a f).toInt ≤ (aBt a b).toInt := by
  intro n
  induction n with
  | zero => exact fun _ b hb => by omega
  | succ n ih =>
    intro f h b hb h0
    unfold aBell at h
    cases q : aBell a n with
    | none =>
      rw [q] at h
      dsimp only at h
      by_cases y : b = n
      · subst y
        rw [if_pos h0] at h
        rw [Option.some.inj h]
        exact Int.le_refl _
      · exact absurd h0 (aBell_no q b (by omega))
    | some g =>
      rw [q] at h
      dsimp only at h
      by_cases z : 0 ≤ aBn a n ∧ (aBt a n < aBt a g ∨ (aBt a n = aBt a g ∧ aBn a n < aBn a g))
      · rw [if_pos z] at h
        rw [← Option.some.inj h]
        by_cases y : b = n
        · rw [y]
          exact Int.le_refl _
        · have h1 := ih q b (by omega) h0
          have h2 : (aBt a n).toInt ≤ (aBt a g).toInt := by
            rcases z.2 with w | w
            · rw [Int32.lt_iff_toInt_lt] at w
              omega
            · rw [w.1]
              exact Int.le_refl _
          omega
      · rw [if_neg z] at h
        rw [← Option.some.inj h]
        by_cases y : b = n
        · rw [y] at h0 ⊢
          by_cases w : aBt a n < aBt a g
          · exact absurd ⟨h0, Or.inl w⟩ z
          · rw [Int32.lt_iff_toInt_lt] at w
            omega
        · exact ih q b (by omega) h0
def nxE (a : AA) (e : Int32 × Option Nat) : Prop := match e.2 with
  | some b => b < 23 ∧ 0 ≤ (aBn a b).toInt ∧ aBt a b = e.1
  | none => ∃ x r, aWay a = x :: r ∧ x.1 = e.1
theorem way_min {x : AP} {r : List AP} (hp : (x :: r).Pairwise apLt) : ∀ y ∈ x :: r, x.1.toInt ≤ y.1.toInt := by
  intro y hy
  rcases List.mem_cons.mp hy with q | q
  · rw [q]
    exact Int.le_refl _
  · have := (List.pairwise_cons.mp hp).1 y q
    unfold apLt at this
    omega
theorem nx_min (hw : (aWay a).Pairwise apLt) (hn : aNext a = some e) : (∀ x ∈ aWay a, e.1.toInt ≤ x.1.toInt) ∧ (∀ b, b < 23 → 0 ≤ (aBn a b).toInt → e.1.toInt ≤ (aBt a b).toInt) ∧ nxE a e := by
  have i0 : ∀ {x : Int32}, 0 ≤ x.toInt → 0 ≤ x := fun h => by
    rw [Int32.le_iff_toInt_le, i_0]
    exact h
  have i1 : ∀ {x : Int32}, 0 ≤ x → 0 ≤ x.toInt := fun h => by
    rw [Int32.le_iff_toInt_le, i_0] at h
    exact h
  unfold aNext at hn
  cases ew : aWay a with
  | nil =>
    rw [ew] at hn
    cases hb : aBell a 23 with
    | none =>
      rw [hb] at hn
      cases hn
    | some f =>
      rw [hb] at hn
      have hn : some ((aBt a f, some f) : Int32 × Option Nat) = some e := hn
      rw [← Option.some.inj hn]
      exact ⟨fun x hx => absurd hx List.not_mem_nil, fun b hb2 h0 => aBell_min hb b hb2 (i0 h0), (aBell_lt hb).1, i1 (aBell_lt hb).2, rfl⟩
  | cons x r =>
    rw [ew] at hn hw
    have hm := way_min hw
    cases hb : aBell a 23 with
    | none =>
      rw [hb] at hn
      have hn : some ((x.1, none) : Int32 × Option Nat) = some e := hn
      rw [← Option.some.inj hn]
      exact ⟨hm, fun b hb2 h0 => absurd (i0 h0) (aBell_no hb b hb2), x, r, ew, rfl⟩
    | some f =>
      rw [hb] at hn
      have hn : (if x.1 < aBt a f ∨ (x.1 = aBt a f ∧ x.2.1 < aBn a f) then some ((x.1, none) : Int32 × Option Nat) else some (aBt a f, some f)) = some e := hn
      by_cases q : x.1 < aBt a f ∨ (x.1 = aBt a f ∧ x.2.1 < aBn a f)
      · rw [if_pos q] at hn
        rw [← Option.some.inj hn]
        refine ⟨hm, fun b hb2 h0 => ?_, x, r, ew, rfl⟩
        have h1 := aBell_min hb b hb2 (i0 h0)
        have h2 : x.1.toInt ≤ (aBt a f).toInt := by
          rcases q with q | q
          · rw [Int32.lt_iff_toInt_lt] at q
            omega
          · rw [q.1]
            exact Int.le_refl _
        show x.1.toInt ≤ _
        omega
      · rw [if_neg q] at hn
        rw [← Option.some.inj hn]
        refine ⟨fun y hy => ?_, fun b hb2 h0 => aBell_min hb b hb2 (i0 h0), (aBell_lt hb).1, i1 (aBell_lt hb).2, rfl⟩
        have h1 := hm y hy
        have h2 : ¬ x.1 < aBt a f := fun z => q (Or.inl z)
        rw [Int32.lt_iff_toInt_lt] at h2
        show (aBt a f).toInt ≤ _
        omega
/-- time goes on -/
theorem Ev_move {d' : Nat} {v : Int32} (h : Ev t B c d a) (hv : v.toInt = u) (h1 : ∀ x ∈ aWay a, v.toInt ≤ x.1.toInt) (h2 : ∀ b, b < 23 → 0 ≤ (aBn a b).toInt → v.toInt ≤ (aBt a b).toInt) (hB : B ≤ B') (hu : u + 2001 ≤ B') (hB2 : B' < 1073741824) (hd : dueW u (aWay a) + dueB u a ≤ d') : Ev u B' c d' (hp1 a v) := by
  have e0 : ∀ f, f ≠ 1 → f ≠ 3 → ∀ i, aS (hp1 a v) f i = aS a f i := fun f y1 y2 i => (aS_If y2).trans (aS_If y1)
  have eN : aNow (hp1 a v) = v := (aS_If (by decide)).trans evI_e
  have en : aBn (hp1 a v) = aBn a := by
    funext x
    unfold aBn
    rw [e0 29 (by decide) (by decide), e0 31 (by decide) (by decide)]
  have et : aBt (hp1 a v) = aBt a := by
    funext x
    unfold aBt
    rw [e0 30 (by decide) (by decide), e0 32 (by decide) (by decide)]
  have eR : drt (hp1 a v) = drt a := sumN_eq 7 (fun x _ => by rw [e0 71 (by decide) (by decide)])
  have eD : dueB u (hp1 a v) = dueB u a := sumN_eq 16 (fun x _ => by rw [e0 29 (by decide) (by decide), e0 30 (by decide) (by decide)])
  obtain ⟨e1, e2, e3, e4, e5, e6, e7, e8, e9, e10, e11, e12, e13⟩ := h
  refine ⟨⟨by rw [eN]; exact hv, hu, hB2, e1.2.2.2⟩, ?_, ?_, ?_, e5, e6, ?_, ?_, ?_, ?_, ?_, ?_, ?_⟩
  · rw [e0 2 (by decide) (by decide), eR]
    exact e2
  · intro x hx
    rw [e0 2 (by decide) (by decide)]
    have := e3 x hx
    have := h1 x hx
    omega
  · intro x hx h0
    rw [en] at h0 ⊢
    rw [et, e0 2 (by decide) (by decide)]
    have := e4 x hx h0
    have := h2 x hx h0
    omega
  · rw [en]
    exact e7
  · rw [en]
    exact e8
  · intro i
    rw [e0 23 (by decide) (by decide)]
    exact e9 i
  · intro i hi
    rw [e0 72 (by decide) (by decide)]
    exact e10 i hi
  · rw [e0 27 (by decide) (by decide)]
    exact e11
  · intro i hi
    rw [e0 31 (by decide) (by decide), e0 71 (by decide) (by decide)]
    exact e12 i hi
  · rw [eD]
    exact hd
theorem Ev_d {d' : Nat} (h : Ev t B c d a) (hd : dueW t (aWay a) + dueB t a ≤ d') : Ev t B c d' a := by
  obtain ⟨e1, e2, e3, e4, e5, e6, e7, e8, e9, e10, e11, e12, e13⟩ := h
  exact ⟨e1, e2, e3, e4, e5, e6, e7, e8, e9, e10, e11, e12, hd⟩
theorem due_q {e : Nat} (he : e < 16) (h0 : 0 ≤ (aS a 29 e).toInt) (h1 : (aS a 30 e).toInt ≤ (t : Int)) : dueB t (aI a 29 e (-1)) + 1 = dueB t a := by
  have e30 : ∀ x, aS (aI a 29 e (-1)) 30 x = aS a 30 x := fun x => aS_If (by decide)
  have := sumN_upd (f := fun x => if 0 ≤ (aS (aI a 29 e (-1)) 29 x).toInt ∧ (aS (aI a 29 e (-1)) 30 x).toInt ≤ (t : Int) then 1 else 0) (g := fun x => if 0 ≤ (aS a 29 x).toInt ∧ (aS a 30 x).toInt ≤ (t : Int) then 1 else 0) (s := e) 16 he (fun x _ hx => by
    rw [e30, evI_i hx])
  rw [if_pos ⟨h0, h1⟩, evI_e, if_neg (fun y => absurd y.1 (by decide))] at this
  show sumN _ 16 + 1 = sumN _ 16
  omega
theorem Ev_quietS {s : Nat} (h : Ev t B c d a) (hs : s < 7) : Ev t B c d (aI a 31 s (-1)) := by
  have e0 : ∀ f, f ≠ 31 → ∀ i, aS (aI a 31 s (-1)) f i = aS a f i := fun f hf i => aS_If hf
  have en : ∀ x, aBn (aI a 31 s (-1)) x = if x = 16 + s then -1 else aBn a x := by
    intro x
    unfold aBn
    by_cases q : x < 16
    · rw [if_pos q, if_pos q, if_neg (by omega), e0 29 (by decide)]
    · rw [if_neg q, if_neg q]
      by_cases z : x = 16 + s
      · rw [z, Nat.add_sub_cancel_left, evI_e, if_pos rfl]
      · rw [evI_i (by omega), if_neg z]
  have et : aBt (aI a 31 s (-1)) = aBt a := by
    funext x
    unfold aBt
    rw [e0 30 (by decide), e0 32 (by decide)]
  have n1 : ¬ 0 ≤ (-1 : Int32).toInt := by decide
  obtain ⟨e1, e2, e3, e4, e5, e6, e7, e8, e9, e10, e11, e12, e13⟩ := h
  refine ⟨⟨(congrArg Int32.toInt (e0 1 (by decide) 0)).trans e1.1, e1.2⟩, ?_, ?_, ?_, e5, e6, ?_, ?_, ?_, ?_, ?_, ?_, ?_⟩
  · have eR : drt (aI a 31 s (-1)) = drt a := sumN_eq 7 (fun x _ => by rw [e0 71 (by decide)])
    rw [e0 2 (by decide), eR]
    exact e2
  · intro x hx
    rw [e0 2 (by decide)]
    exact e3 x hx
  · intro x hx h0
    rw [en] at h0 ⊢
    rw [et, e0 2 (by decide)]
    by_cases z : x = 16 + s
    · rw [if_pos z] at h0
      exact absurd h0 n1
    · rw [if_neg z] at h0 ⊢
      exact e4 x hx h0
  · intro x hx y hy h0
    rw [en] at h0 ⊢
    by_cases z : y = 16 + s
    · rw [if_pos z] at h0
      exact absurd h0 n1
    · rw [if_neg z] at h0 ⊢
      exact e7 x hx y hy h0
  · intro x y hx hy hne h0
    rw [en] at h0 ⊢
    rw [en]
    by_cases z : x = 16 + s
    · rw [if_pos z] at h0
      exact absurd h0 n1
    · rw [if_neg z] at h0 ⊢
      by_cases w : y = 16 + s
      · rw [if_pos w]
        intro r
        rw [r] at h0
        exact absurd h0 n1
      · rw [if_neg w]
        exact e8 x y hx hy hne h0
  · intro i
    rw [e0 23 (by decide)]
    exact e9 i
  · intro i hi
    rw [e0 72 (by decide)]
    exact e10 i hi
  · rw [e0 27 (by decide)]
    exact e11
  · intro i hi h0
    rw [e0 71 (by decide)]
    by_cases z : i = s
    · rw [z, evI_e] at h0
      exact absurd h0 n1
    · rw [evI_i z] at h0
      exact e12 i hi h0
  · have eD : dueB t (aI a 31 s (-1)) = dueB t a := sumN_eq 16 (fun x _ => by rw [e0 29 (by decide), e0 30 (by decide)])
    show dueW t (aWay a) + dueB t (aI a 31 s (-1)) ≤ d
    rw [eD]
    exact e13
theorem Ev_take {x : AP} {r : List AP} (h : Ev t B c d a) (ew : aWay a = x :: r) (hc : c + 1 + 200 < 2147483648) : Ev t B (c + 1) d (aWayS a r) := by
  obtain ⟨e1, e2, e3, e4, e5, e6, e7, e8, e9, e10, e11, e12, e13⟩ := h
  rw [ew] at e2 e3 e5 e6 e7 e13
  rw [List.length_cons] at e2 e5
  have hd : dueW t r ≤ dueW t (x :: r) := by
    by_cases q : x.1.toInt ≤ (t : Int)
    · rw [due_p q]
      omega
    · rw [due_n q]
      exact Nat.le_refl _
  refine ⟨⟨e1.1, e1.2.1, e1.2.2.1, hc⟩, ⟨e2.1, ?_⟩, fun y hy => e3 y (List.mem_cons_of_mem _ hy), e4, ?_, (List.pairwise_cons.mp e6).2, fun y hy => e7 y (List.mem_cons_of_mem _ hy), e8, e9, e10, e11, e12, ?_⟩
  · show (aS a 2 0).toInt ≤ ((c + 1 : Nat) : Int) + ((r.length : Nat) : Int) + ((drt a : Nat) : Int)
    omega
  · show r.length ≤ 128
    omega
  · show dueW t r + dueB t a ≤ d
    omega
theorem Wd_quiet {i : Nat} (h : Wd a) : Wd (aI a 29 i (-1)) := by
  have e0 : ∀ f, f ≠ 29 → ∀ j, aS (aI a 29 i (-1)) f j = aS a f j := fun f hf j => aS_If hf
  refine ⟨fun s hs => Ph_fr AFr_I (by decide) (by decide) (h.1 s hs), h.2.1, fun k hk => ?_, ?_⟩
  · obtain ⟨z1, z2, z3, z4⟩ := h.2.2.1 k hk
    refine ⟨by rw [e0 125 (by decide)]; exact z1, by rw [e0 124 (by decide)]; exact z2, by rw [e0 124 (by decide), e0 137 (by decide)]; exact z3, ?_⟩
    rw [e0 124 (by decide)]
    by_cases q : 8 + k = i
    · rw [← q, evI_e]
      exact fun y => absurd y (by decide)
    · rw [evI_i q]
      exact z4
  · by_cases q : 7 = i
    · rw [← q, evI_e]
      decide
    · rw [evI_i q]
      exact h.2.2.2
theorem Wd_hp {v : Int32} (h : Wd a) : Wd (hp1 a v) := Wd_nn (by decide) (Wd_nn (by decide) h)
theorem Wd_take {x : AP} {r : List AP} (h : Wd a) (ew : aWay a = x :: r) : Wd (aWayS a r) := ⟨h.1, fun y hy => h.2.1 y (by rw [ew]; exact List.mem_cons_of_mem _ hy), h.2.2.1, h.2.2.2⟩
theorem ev_lt {x : Int32} (h : aInR x 0 6 = true) : x < 7 := by
  obtain ⟨p, hp, q⟩ := inR_s h
  rw [q]
  exact (by decide : ∀ p, p < 7 → Int32.ofNat p < 7) p hp
theorem ev_ge {x : Int32} (h : aInR x 8 15 = true) : ¬ x < 7 ∧ x.toNatClampNeg - 8 < 8 := by
  unfold aInR at h
  rw [Bool.and_eq_true_iff, decide_eq_true_eq, decide_eq_true_eq, Int32.le_iff_toInt_le, Int32.le_iff_toInt_le, L_8, L_15] at h
  refine ⟨fun z => ?_, ?_⟩
  · rw [Int32.lt_iff_toInt_lt, L_7] at z
    omega
  · show x.toInt.toNat - 8 < 8
    omega
/-- an event of a bell -/
theorem Ev_hapB {i D : Nat} (h : Ev t B c d a) (w : Wd a) (hi : i < 23) (h0 : 0 ≤ (aBn a i).toInt) (ht : (aBt a i).toInt = t) (hd : d ≤ D + if 16 ≤ i then 0 else 1) (hc : c + 4 + 200 < 2147483648) (v : Int32) (hE : ∀ r, r = (if 16 ≤ i then A_sync (aI a 31 (i - 16) (-1)) (i - 16) else if i < 8 then A_ring (aI a 29 i (-1)) i else A_ringClient (aI a 29 i (-1)) (i - 8)) → r = b) : Ev t B (c + 4) D b ∧ Wd b := by
  rw [← hE _ rfl]
  by_cases q16 : 16 ≤ i
  · rw [if_pos q16] at hd ⊢
    have hs : i - 16 < 7 := by omega
    have g := Ev_quietS (s := i - 16) (Ev_w (d' := D) (Nat.le_refl c) (by omega) (by omega) h) hs
    have w1 : Wd (aI a 31 (i - 16) (-1)) := Wd_nn (by decide) w
    have p := Pa_sync (w1.1 _ hs) hs (by rw [evI_e]; decide)
    exact ⟨Ev_w (by omega) hc (Nat.le_refl _) (Pa_Ev hs p (by omega) g), Wd_Pa hs p w1⟩
  · rw [if_neg q16] at hd ⊢
    have hB : (0 ≤ (aS a 29 i).toInt) ∧ (aS a 30 i).toInt = t := by
      unfold aBn at h0
      unfold aBt at ht
      rw [if_pos (by omega)] at h0 ht
      exact ⟨h0, ht⟩
    have g0 := Ev_quiet (e := i) h (by omega)
    have g : Ev t B c D (aI a 29 i (-1)) := Ev_d g0 (by
      have e13 := h.2.2.2.2.2.2.2.2.2.2.2.2
      have := due_q (t := t) (a := a) (e := i) (by omega) hB.1 (by omega)
      show dueW t (aWay a) + dueB t (aI a 29 i (-1)) ≤ D
      omega)
    have w1 : Wd (aI a 29 i (-1)) := Wd_quiet w
    by_cases q8 : i < 8
    · rw [if_pos q8]
      have hs : i < 7 := by
        have h7 := w.2.2.2
        rw [Int32.lt_iff_toInt_lt, i_0] at h7
        by_cases y : i = 7
        · rw [y] at hB
          omega
        · omega
      have p := Pa_ring (w1.1 _ hs) hs
      exact ⟨Ev_w (by omega) hc (Nat.le_refl _) (Pa_Ev hs p (by omega) g), Wd_Pa hs p w1⟩
    · rw [if_neg q8]
      have hk : i - 8 < 8 := by omega
      have h1 : aS (aI a 29 i (-1)) 124 (i - 8) = 1 := by
        rw [aS_If (by decide)]
        refine (w.2.2.1 (i - 8) hk).2.2.2 ?_
        rw [show 8 + (i - 8) = i by omega, Int32.le_iff_toInt_le, i_0]
        exact hB.1
      exact ⟨Ev_w (by omega) hc (Nat.le_refl _) (Ev_ringC g hk (by omega)), Wd_ringC w1 hk h1⟩
/-- a letter comes -/
theorem Ev_hapL {D : Nat} {x : AP} {r : List AP} (h : Ev t B c d a) (w : Wd a) (ew : aWay a = x :: r) (ht : x.1.toInt = t) (hd : d ≤ D + 1) (hc : c + 4 + 200 < 2147483648) :
    Ev t B (c + 4) D (if A_parted (aWayS a r) (x.2.2.1 2) (x.2.2.1 3) ∨ (x.2.2.1 3 < 7 ∧ aS (aWayS a r) 52 (x.2.2.1 3).toNatClampNeg = 0) then aAdd (aWayS a r) 22 0 1 else if x.2.2.1 3 < 7 then (if x.2.2.1 4 = 10 then A_asked (aWayS a r) (x.2.2.1 3).toNatClampNeg x.2.2 else A_came (aWayS a r) (x.2.2.1 3).toNatClampNeg x.2.2) else A_hear (aWayS a r) ((x.2.2.1 3).toNatClampNeg - 8) x.2.2) ∧
    Wd (if A_parted (aWayS a r) (x.2.2.1 2) (x.2.2.1 3) ∨ (x.2.2.1 3 < 7 ∧ aS (aWayS a r) 52 (x.2.2.1 3).toNatClampNeg = 0) then aAdd (aWayS a r) 22 0 1 else if x.2.2.1 3 < 7 then (if x.2.2.1 4 = 10 then A_asked (aWayS a r) (x.2.2.1 3).toNatClampNeg x.2.2 else A_came (aWayS a r) (x.2.2.1 3).toNatClampNeg x.2.2) else A_hear (aWayS a r) ((x.2.2.1 3).toNatClampNeg - 8) x.2.2) := by
  have hl := w.2.1 x (by rw [ew]; exact List.mem_cons_self)
  have g : Ev t B (c + 1) D (aWayS a r) := Ev_d (Ev_take h ew (by omega)) (by
    have e13 := h.2.2.2.2.2.2.2.2.2.2.2.2
    rw [ew, due_p (by omega)] at e13
    show dueW t r + dueB t a ≤ D
    omega)
  have w1 : Wd (aWayS a r) := Wd_take w ew
  generalize aWayS a r = a2 at g w1 ⊢
  have up : ∀ {j : Nat} {b : AA}, j ≤ 3 → Ev t B (c + 1 + j) D b → Ev t B (c + 4) D b := fun hj hb => Ev_w (by omega) hc (Nat.le_refl _) hb
  split
  · exact ⟨up (j := 0) (by omega) (Ev_nn (by decide) g), Wd_nn (by decide) w1⟩
  · by_cases q7 : x.2.2.1 3 < 7
    · rw [if_pos q7]
      rcases hl with ⟨s', hs', y1, y2, y3, y4⟩ | ⟨y1, y2⟩
      · have yr : aInR (x.2.2.1 3) 0 6 = true := by
          rcases y2 with z | z
          · exact z
          · exact absurd q7 (ev_ge z.1).1
        have hs := inR_lt yr
        rw [if_neg y3]
        have p := Pa_came (l := x.2.2) (w1.1 _ hs) hs (by rw [y1]; exact inR_p s' hs')
        exact ⟨up (Nat.le_refl 3) (Pa_Ev hs p (by omega) g), Wd_Pa hs p w1⟩
      · have hs := inR_lt y2
        rw [if_pos y1.1]
        have p := Pa_asked (l := x.2.2) (w1.1 _ hs) y1.2.1
        exact ⟨up (j := 0) (by omega) (Pa_Ev hs p (by omega) g), Wd_Pa hs p w1⟩
    · rw [if_neg q7]
      rcases hl with ⟨s', hs', y1, y2, y3, y4⟩ | ⟨y1, y2⟩
      · rcases y2 with z | z
        · exact absurd (ev_lt z) q7
        · have hk := (ev_ge z.1).2
          exact ⟨up (j := 1) (by omega) (Ev_hear g hk (by omega)), Wd_hear w1 hk y4 z.2⟩
      · exact absurd (ev_lt y2) q7
end HP0
