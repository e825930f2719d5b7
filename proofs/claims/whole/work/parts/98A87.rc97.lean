/-! the events' order and numbers along a path -/
theorem i_add {x y : Int32} (h1 : -2147483648 ≤ x.toInt + y.toInt) (h2 : x.toInt + y.toInt < 2147483648) : (x + y).toInt = x.toInt + y.toInt := by
  rw [Int32.toInt_add]
  exact Int.bmod_eq_of_le (by omega) (by omega)
/-- how many servers have a sync ahead of them -/
def drt (a : AA) : Nat := sumN (fun s => if aS a 71 s = 0 then 0 else 1) 7
/-- how many letters, alarms are due by a time -/
def dueW (t : Nat) (w : List AP) : Nat := (w.filter (fun x => decide (x.1.toInt ≤ (t : Int)))).length
def dueB (t : Nat) (a : AA) : Nat := sumN (fun b => if 0 ≤ (aS a 29 b).toInt ∧ (aS a 30 b).toInt ≤ t then 1 else 0) 16
def apLt (x y : AP) : Prop := x.1.toInt < y.1.toInt ∨ (x.1.toInt = y.1.toInt ∧ x.2.1.toInt < y.2.1.toInt)
/-- t now, B the latest time, c how many numbers were used up, d how many events are due -/
def Ev (t B c d : Nat) (a : AA) : Prop :=
  ((aNow a).toInt = t ∧ t + 2001 ≤ B ∧ B < 1073741824 ∧ c + 200 < 2147483648) ∧
  (0 ≤ (aS a 2 0).toInt ∧ (aS a 2 0).toInt ≤ c + (aWay a).length + drt a) ∧
  (∀ x ∈ aWay a, 0 ≤ x.2.1.toInt ∧ x.2.1.toInt < (aS a 2 0).toInt ∧ t ≤ x.1.toInt ∧ x.1.toInt ≤ B) ∧
  (∀ b, b < 23 → 0 ≤ (aBn a b).toInt → (aBn a b).toInt < (aS a 2 0).toInt ∧ t ≤ (aBt a b).toInt ∧ (aBt a b).toInt ≤ B) ∧
  (aWay a).length ≤ 128 ∧ (aWay a).Pairwise apLt ∧
  (∀ x ∈ aWay a, ∀ b, b < 23 → 0 ≤ (aBn a b).toInt → x.2.1.toInt ≠ (aBn a b).toInt) ∧
  (∀ b e, b < 23 → e < 23 → b ≠ e → 0 ≤ (aBn a b).toInt → (aBn a b).toInt ≠ (aBn a e).toInt) ∧
  (∀ i, 1 ≤ (aS a 23 i).toInt ∧ (aS a 23 i).toInt ≤ 1000) ∧ (∀ s, s < 7 → 0 ≤ (aS a 72 s).toInt ∧ (aS a 72 s).toInt ≤ 1000) ∧
  (0 ≤ (aS a 27 0).toInt ∧ (aS a 27 0).toInt ≤ 1000) ∧ (∀ s, s < 7 → 0 ≤ (aS a 31 s).toInt → ¬ aS a 71 s = 0) ∧
  dueW t (aWay a) + dueB t a ≤ d
theorem drt_7 {a : AA} : drt a ≤ 7 := by
  have h : ∀ n, sumN (fun s => if aS a 71 s = 0 then 0 else 1) n ≤ n := by
    intro n
    induction n with
    | zero => exact Nat.le_refl _
    | succ n ih =>
      show sumN (fun s => if aS a 71 s = 0 then 0 else 1) n + (if aS a 71 n = 0 then 0 else 1) ≤ n + 1
      split <;> omega
  exact h 7
def evF : List Nat := [1, 2, 23, 27, 29, 30, 31, 32, 71, 72]
section EV0
variable {t B c d : Nat} {a b : AA}
theorem Ev_same (hn : ∀ f ∈ evF, ∀ i, aS b f i = aS a f i) (hw : aWay b = aWay a) (h : Ev t B c d a) : Ev t B c d b := by
  simp only [Ev, aNow, aBn, aBt, drt, dueB, hw, hn 1 (by decide), hn 2 (by decide), hn 23 (by decide), hn 27 (by decide), hn 29 (by decide), hn 30 (by decide), hn 31 (by decide), hn 32 (by decide), hn 71 (by decide), hn 72 (by decide)] at h ⊢
  exact h
theorem Ev_fr {W T : List Nat} (hF : AFr W T a b) (q : dj evF W = true) (q0 : 0 ∉ T) (h : Ev t B c d a) : Ev t B c d b := Ev_same (fun f hf i => hF.1 f (dj_m q hf) i) (hF.2.1 q0) h
theorem Ev_w {c' d' : Nat} (h1 : c ≤ c') (h2 : c' + 200 < 2147483648) (h3 : d ≤ d') (h : Ev t B c d a) : Ev t B c' d' a := by
  obtain ⟨e1, e2, e3, e4, e5, e6, e7, e8, e9, e10, e11, e12, e13⟩ := h
  exact ⟨⟨e1.1, e1.2.1, e1.2.2.1, h2⟩, ⟨e2.1, by omega⟩, e3, e4, e5, e6, e7, e8, e9, e10, e11, e12, by omega⟩
/-- a bell is set -/
theorem Ev_bell {e c' : Nat} {u : Int32} (h : Ev t B c d a) (hw : aWay b = aWay a) (hn : ∀ f, f = 1 ∨ f = 23 ∨ f = 27 ∨ f = 72 → ∀ i, aS b f i = aS a f i) (hM : aS b 2 0 = aS a 2 0 + 1)
    (hbn : ∀ x, x < 23 → aBn b x = if x = e then aS a 2 0 else aBn a x) (hbt : ∀ x, x < 23 → aBt b x = if x = e then u else aBt a x) (hu : t ≤ u.toInt ∧ u.toInt ≤ B)
    (h31 : ∀ s, s < 7 → 0 ≤ (aS b 31 s).toInt → ¬ aS b 71 s = 0) (hc : c + drt a + 1 ≤ c' + drt b) (hd : dueB t b ≤ dueB t a) (hc2 : c' + 200 < 2147483648) : Ev t B c' d b := by
  obtain ⟨e1, e2, e3, e4, e5, e6, e7, e8, e9, e10, e11, e12, e13⟩ := h
  have d7 := drt_7 (a := a)
  have M1 : (aS b 2 0).toInt = (aS a 2 0).toInt + 1 := by
    rw [hM, i_add (by rw [L_1]; omega) (by rw [L_1]; omega), L_1]
  refine ⟨⟨?_, e1.2.1, e1.2.2.1, hc2⟩, ?_, ?_, ?_, ?_, ?_, ?_, ?_, ?_, ?_, ?_, h31, ?_⟩
  · unfold aNow
    rw [hn 1 (Or.inl rfl)]
    exact e1.1
  · rw [M1, hw]
    omega
  · intro x hx
    rw [hw] at hx
    have := e3 x hx
    rw [M1]
    omega
  · intro x hx h0
    rw [hbn x hx] at h0 ⊢
    rw [hbt x hx]
    by_cases q : x = e
    · rw [if_pos q, if_pos q, M1]
      omega
    · rw [if_neg q] at h0
      rw [if_neg q, if_neg q, M1]
      have := e4 x hx h0
      omega
  · rw [hw]
    exact e5
  · rw [hw]
    exact e6
  · intro x hx y hy h0
    rw [hw] at hx
    rw [hbn y hy] at h0 ⊢
    by_cases q : y = e
    · rw [if_pos q]
      have := e3 x hx
      omega
    · rw [if_neg q] at h0 ⊢
      exact e7 x hx y hy h0
  · intro x y hx hy hne h0
    rw [hbn x hx] at h0 ⊢
    rw [hbn y hy]
    by_cases q : x = e
    · have q2 : ¬ y = e := fun z => hne (q.trans z.symm)
      rw [if_pos q, if_neg q2]
      intro z
      have := e4 y hy (by rw [← z]; exact e2.1)
      omega
    · rw [if_neg q] at h0 ⊢
      have := e4 x hx h0
      by_cases q2 : y = e
      · rw [if_pos q2]
        omega
      · rw [if_neg q2]
        exact e8 x y hx hy hne h0
  · intro i
    rw [hn 23 (Or.inr (Or.inl rfl))]
    exact e9 i
  · intro s hs
    rw [hn 72 (Or.inr (Or.inr (Or.inr rfl)))]
    exact e10 s hs
  · rw [hn 27 (Or.inr (Or.inr (Or.inl rfl)))]
    exact e11
  · rw [hw]
    omega
theorem evI_e {f i : Nat} {v : Int32} : aS (aI a f i v) f i = v := if_pos ⟨rfl, rfl⟩
theorem evI_i {f i j : Nat} {v : Int32} (h : ¬ j = i) : aS (aI a f i v) f j = aS a f j := if_neg (fun z => h z.2)
theorem al_n {e x : Nat} {u : Int32} (he : e < 16) : aBn (A_alarm a e u) x = if x = e then aS a 2 0 else aBn a x := by
  unfold aBn
  by_cases q : x < 16
  · rw [if_pos q, if_pos q]
    unfold A_alarm aAdd
    rw [aS_If (by decide)]
    by_cases z : x = e
    · rw [z, evI_e, if_pos rfl]
    · rw [evI_i z, aS_If (by decide), if_neg z]
  · rw [if_neg q, if_neg q, if_neg (fun z => by omega)]
    exact AFr_alarm.1 31 (by decide) _
theorem al_t {e x : Nat} {u : Int32} (he : e < 16) : aBt (A_alarm a e u) x = if x = e then u else aBt a x := by
  unfold aBt
  by_cases q : x < 16
  · rw [if_pos q, if_pos q]
    unfold A_alarm aAdd
    rw [aS_If (by decide), aS_If (by decide)]
    by_cases z : x = e
    · rw [z, evI_e, if_pos rfl]
    · rw [evI_i z, if_neg z]
  · rw [if_neg q, if_neg q, if_neg (fun z => by omega)]
    exact AFr_alarm.1 32 (by decide) _
theorem Ev_alarm {e : Nat} {u : Int32} (h : Ev t B c d a) (he : e < 16) (hu : t < u.toInt ∧ u.toInt ≤ B) (hc : c + 1 + 200 < 2147483648) : Ev t B (c + 1) d (A_alarm a e u) := by
  have hF := AFr_alarm (a := a) (e := e) (t := u)
  have eR : drt (A_alarm a e u) = drt a := by
    unfold drt
    exact sumN_eq 7 (fun s _ => by rw [hF.1 71 (by decide)])
  refine Ev_bell (e := e) (u := u) h (hF.2.1 (by decide)) (fun f hf i => ?_) ?_ (fun x _ => al_n he) (fun x _ => al_t he) ⟨by omega, hu.2⟩ (fun s hs h0 => ?_) (by omega) ?_ hc
  · rcases hf with rfl | rfl | rfl | rfl
    · exact hF.1 1 (by decide) i
    · exact hF.1 23 (by decide) i
    · exact hF.1 27 (by decide) i
    · exact hF.1 72 (by decide) i
  · unfold A_alarm aAdd
    rw [evI_e, aS_If (by decide), aS_If (by decide)]
  · rw [hF.1 31 (by decide)] at h0
    rw [hF.1 71 (by decide)]
    exact h.2.2.2.2.2.2.2.2.2.2.2.1 s hs h0
  · refine sumN_le 16 (fun x hx => ?_)
    have en := al_n (a := a) (e := e) (x := x) (u := u) he
    have et := al_t (a := a) (e := e) (x := x) (u := u) he
    unfold aBn at en
    unfold aBt at et
    rw [if_pos hx, if_pos hx] at en et
    rw [en, et]
    by_cases z : x = e
    · rw [if_pos z, if_pos z, if_neg (fun y => by omega)]
      exact Nat.zero_le _
    · rw [if_neg z, if_neg z]
      exact Nat.le_refl _
theorem so_n {s x : Nat} (hs : s < 7) (h0 : aS a 71 s = 0) : aBn (aSoil a s) x = if x = 16 + s then aS a 2 0 else aBn a x := by
  unfold aBn
  by_cases q : x < 16
  · rw [if_pos q, if_pos q, if_neg (by omega)]
    exact AFr_soil.1 29 (by decide) _
  · rw [if_neg q, if_neg q]
    unfold aSoil aAdd
    rw [if_pos h0, aS_If (by decide)]
    by_cases z : x = 16 + s
    · rw [z, Nat.add_sub_cancel_left, evI_e, if_pos rfl]
    · rw [evI_i (by omega), if_neg z, aS_If (by decide), aS_If (by decide)]
theorem so_t {s x : Nat} (hs : s < 7) (h0 : aS a 71 s = 0) : aBt (aSoil a s) x = if x = 16 + s then aNow a + aS a 72 s else aBt a x := by
  unfold aBt
  by_cases q : x < 16
  · rw [if_pos q, if_pos q, if_neg (by omega)]
    exact AFr_soil.1 30 (by decide) _
  · rw [if_neg q, if_neg q]
    unfold aSoil aAdd
    rw [if_pos h0, aS_If (by decide), aS_If (by decide)]
    by_cases z : x = 16 + s
    · rw [z, Nat.add_sub_cancel_left, evI_e, if_pos rfl]
    · rw [evI_i (by omega), if_neg z, aS_If (by decide)]
theorem so_71 {s x : Nat} (h0 : aS a 71 s = 0) : aS (aSoil a s) 71 x = if x = s then 1 else aS a 71 x := by
  unfold aSoil aAdd
  rw [if_pos h0, aS_If (by decide), aS_If (by decide), aS_If (by decide)]
  by_cases z : x = s
  · rw [z, evI_e, if_pos rfl]
  · rw [evI_i z, if_neg z]
theorem Ev_soil {s : Nat} (h : Ev t B c d a) (hs : s < 7) : Ev t B c d (aSoil a s) := by
  by_cases h0 : aS a 71 s = 0
  · have hF := AFr_soil (a := a) (s := s)
    have e72 := h.2.2.2.2.2.2.2.2.2.1 s hs
    have e1 := h.1
    have eR : drt (aSoil a s) = drt a + 1 := by
      have := sumN_upd (f := fun x => if aS (aSoil a s) 71 x = 0 then 0 else 1) (g := fun x => if aS a 71 x = 0 then 0 else 1) (s := s) 7 hs (fun x _ hx => by
        rw [so_71 h0, if_neg hx])
      rw [so_71 h0, if_pos rfl, if_pos h0, if_neg (by decide)] at this
      show sumN _ 7 = sumN _ 7 + 1
      omega
    refine Ev_bell (e := 16 + s) (u := aNow a + aS a 72 s) h (hF.2.1 (by decide)) (fun f hf i => ?_) ?_ (fun x _ => so_n hs h0) (fun x _ => so_t hs h0) ?_ (fun x hx hx0 => ?_) (by omega) ?_ e1.2.2.2
    · rcases hf with rfl | rfl | rfl | rfl
      · exact hF.1 1 (by decide) i
      · exact hF.1 23 (by decide) i
      · exact hF.1 27 (by decide) i
      · exact hF.1 72 (by decide) i
    · unfold aSoil aAdd
      rw [if_pos h0, evI_e, aS_If (by decide), aS_If (by decide), aS_If (by decide)]
    · rw [i_add (by omega) (by omega), e1.1]
      omega
    · rw [so_71 h0]
      by_cases z : x = s
      · rw [if_pos z]
        decide
      · rw [if_neg z]
        have e31 := so_n (a := a) (x := 16 + x) hs h0
        unfold aBn at e31
        rw [if_neg (by omega), if_neg (by omega), if_neg (by omega), Nat.add_sub_cancel_left] at e31
        rw [e31] at hx0
        exact h.2.2.2.2.2.2.2.2.2.2.2.1 x hx hx0
    · refine sumN_le 16 (fun x hx => ?_)
      rw [hF.1 29 (by decide), hF.1 30 (by decide)]
      exact Nat.le_refl _
  · have e : aSoil a s = a := if_neg h0
    rw [e]
    exact h
theorem Ev_clean {s : Nat} (h : Ev t B c d a) (hs : s < 7) (h31 : aS a 31 s < 0) (hc : c + 1 + 200 < 2147483648) : Ev t B (c + 1) d (aI a 71 s 0) := by
  have e : ∀ f, f ≠ 71 → ∀ i, aS (aI a 71 s 0) f i = aS a f i := fun f hf i => aS_If hf
  have e71 : ∀ x, aS (aI a 71 s 0) 71 x = if x = s then 0 else aS a 71 x := by
    intro x
    by_cases z : x = s
    · rw [if_pos z]
      exact if_pos ⟨rfl, z⟩
    · rw [if_neg z]
      exact if_neg (fun y => z y.2)
  have eR : drt a ≤ drt (aI a 71 s 0) + 1 := by
    have := sumN_upd (f := fun x => if aS (aI a 71 s 0) 71 x = 0 then 0 else 1) (g := fun x => if aS a 71 x = 0 then 0 else 1) (s := s) 7 hs (fun x _ hx => by
      rw [e71, if_neg hx])
    rw [e71, if_pos rfl, if_pos rfl] at this
    show sumN _ 7 ≤ sumN _ 7 + 1
    have h1 : (if aS a 71 s = 0 then 0 else 1) ≤ 1 := by split <;> omega
    omega
  obtain ⟨e1, e2, e3, e4, e5, e6, e7, e8, e9, e10, e11, e12, e13⟩ := h
  have g : ∀ p : Prop, (aNow (aI a 71 s 0) = aNow a → aBn (aI a 71 s 0) = aBn a → aBt (aI a 71 s 0) = aBt a → p) → p := fun p k => k (e 1 (by decide) 0) (by
    funext x
    unfold aBn
    rw [e 29 (by decide), e 31 (by decide)]) (by
    funext x
    unfold aBt
    rw [e 30 (by decide), e 32 (by decide)])
  refine g _ (fun k1 k2 k3 => ?_)
  refine ⟨⟨?_, e1.2.1, e1.2.2.1, hc⟩, ?_, ?_, ?_, e5, e6, ?_, ?_, ?_, ?_, ?_, ?_, ?_⟩
  · rw [k1]
    exact e1.1
  · rw [e 2 (by decide)]
    show _ ∧ (aS a 2 0).toInt ≤ ((c + 1 : Nat) : Int) + ((aWay a).length : Nat) + _
    omega
  · intro x hx
    rw [e 2 (by decide)]
    exact e3 x hx
  · intro x hx
    rw [k2, k3, e 2 (by decide)]
    exact e4 x hx
  · rw [k2]
    exact e7
  · rw [k2]
    exact e8
  · intro i
    rw [e 23 (by decide)]
    exact e9 i
  · intro i hi
    rw [e 72 (by decide)]
    exact e10 i hi
  · rw [e 27 (by decide)]
    exact e11
  · intro x hx h0
    rw [e 31 (by decide)] at h0
    rw [e71]
    by_cases z : x = s
    · exfalso
      rw [z] at h0
      rw [Int32.lt_iff_toInt_lt, i_0] at h31
      omega
    · rw [if_neg z]
      exact e12 x hx h0
  · have eD : dueB t (aI a 71 s 0) = dueB t a := sumN_eq 16 (fun x _ => by rw [e 29 (by decide), e 30 (by decide)])
    rw [eD]
    exact e13
/-! a letter flies -/
theorem ins_c {x y : AP} {w : List AP} : aIns x (y :: w) = if y.1 ≤ x.1 then y :: aIns x w else x :: y :: w := by
  unfold aIns
  rw [List.takeWhile_cons, List.dropWhile_cons]
  by_cases q : y.1 ≤ x.1
  · rw [if_pos (decide_eq_true q), if_pos (decide_eq_true q), if_pos q]
    rfl
  · rw [if_neg (by simpa using q), if_neg (by simpa using q), if_neg q]
    rfl
theorem ins_m {x z : AP} : ∀ {w : List AP}, z ∈ aIns x w → z = x ∨ z ∈ w := by
  intro w
  induction w with
  | nil =>
    intro h
    exact Or.inl (List.mem_singleton.mp h)
  | cons y w ih =>
    intro h
    rw [ins_c] at h
    split at h
    · rcases List.mem_cons.mp h with q | q
      · exact Or.inr (by rw [q]; exact List.mem_cons_self)
      · exact (ih q).imp id (List.mem_cons_of_mem _)
    · exact List.mem_cons.mp h
theorem ins_p {x : AP} : ∀ {w : List AP}, w.Pairwise apLt → (∀ y ∈ w, y.2.1.toInt < x.2.1.toInt) → (aIns x w).Pairwise apLt := by
  intro w
  induction w with
  | nil =>
    intro _ _
    exact List.pairwise_singleton _ _
  | cons y w ih =>
    intro h hm
    rw [List.pairwise_cons] at h
    rw [ins_c]
    by_cases q : y.1 ≤ x.1
    · rw [if_pos q, List.pairwise_cons]
      refine ⟨fun z hz => ?_, ih h.2 (fun z hz => hm z (List.mem_cons_of_mem _ hz))⟩
      rcases ins_m hz with r | r
      · rw [r]
        have := hm y List.mem_cons_self
        rw [Int32.le_iff_toInt_le] at q
        unfold apLt
        omega
      · exact h.1 z r
    · rw [if_neg q, List.pairwise_cons]
      refine ⟨fun z hz => ?_, List.pairwise_cons.mpr h⟩
      rw [Int32.le_iff_toInt_le] at q
      rcases List.mem_cons.mp hz with r | r
      · rw [r]
        unfold apLt
        omega
      · have := h.1 z r
        unfold apLt at this ⊢
        omega
theorem due_p {y : AP} {v : List AP} (r : y.1.toInt ≤ (t : Int)) : dueW t (y :: v) = dueW t v + 1 := by
  unfold dueW
  rw [List.filter_cons_of_pos (p := fun x : AP => decide (x.1.toInt ≤ (t : Int))) (decide_eq_true r), List.length_cons]
theorem due_n {y : AP} {v : List AP} (r : ¬ y.1.toInt ≤ (t : Int)) : dueW t (y :: v) = dueW t v := by
  unfold dueW
  rw [List.filter_cons_of_neg (p := fun x : AP => decide (x.1.toInt ≤ (t : Int))) (by rw [decide_eq_true_eq]; exact r)]
theorem ins_d {x : AP} (hx : t < x.1.toInt) : ∀ {w : List AP}, dueW t (aIns x w) = dueW t w := by
  intro w
  induction w with
  | nil => exact due_n (v := []) (by omega)
  | cons y w ih =>
    rw [ins_c]
    split
    · by_cases r : y.1.toInt ≤ (t : Int)
      · rw [due_p r, due_p r, ih]
      · rw [due_n r, due_n r, ih]
    · exact due_n (by omega)
theorem Ev_fly {l : AL} {u : Int32} (h : Ev t B c d a) (hu : t < u.toInt ∧ u.toInt ≤ B) : Ev t B c d (A_fly a l u) := by
  unfold A_fly
  by_cases q : 128 ≤ (aWay a).length
  · rw [if_pos q]
    exact Ev_fr (W := [22]) (T := []) AFr_I (by decide) (by decide) h
  · rw [if_neg q]
    have d7 := drt_7 (a := a)
    have e : ∀ f, f ≠ 2 → f ≠ 21 → ∀ i, aS (aWayS (aAdd (aAdd a 2 0 1) 21 0 1) (aIns (u, aS a 2 0, l) (aWay a))) f i = aS a f i := fun f h2 h21 i => (aS_If h21).trans (aS_If h2)
    have e2 : aS (aWayS (aAdd (aAdd a 2 0 1) 21 0 1) (aIns (u, aS a 2 0, l) (aWay a))) 2 0 = aS a 2 0 + 1 := (aS_If (a := aAdd a 2 0 1) (f := 21) (by decide)).trans (show aS (aAdd a 2 0 1) 2 0 = _ from evI_e)
    have ew : aWay (aWayS (aAdd (aAdd a 2 0 1) 21 0 1) (aIns (u, aS a 2 0, l) (aWay a))) = aIns (u, aS a 2 0, l) (aWay a) := rfl
    generalize aWayS (aAdd (aAdd a 2 0 1) 21 0 1) (aIns (u, aS a 2 0, l) (aWay a)) = b at e e2 ew ⊢
    obtain ⟨e1, e2', e3, e4, e5, e6, e7, e8, e9, e10, e11, e12, e13⟩ := h
    have M1 : (aS b 2 0).toInt = (aS a 2 0).toInt + 1 := by
      rw [e2, i_add (by rw [L_1]; omega) (by rw [L_1]; omega), L_1]
    have k1 : aNow b = aNow a := e 1 (by decide) (by decide) 0
    have k2 : aBn b = aBn a := by
      funext x
      unfold aBn
      rw [e 29 (by decide) (by decide), e 31 (by decide) (by decide)]
    have k3 : aBt b = aBt a := by
      funext x
      unfold aBt
      rw [e 30 (by decide) (by decide), e 32 (by decide) (by decide)]
    have k4 : drt b = drt a := sumN_eq 7 (fun x _ => by rw [e 71 (by decide) (by decide)])
    have k5 : dueB t b = dueB t a := sumN_eq 16 (fun x _ => by rw [e 29 (by decide) (by decide), e 30 (by decide) (by decide)])
    refine ⟨⟨by rw [k1]; exact e1.1, e1.2⟩, ?_, ?_, ?_, ?_, ?_, ?_, by rw [k2]; exact e8, ?_, ?_, ?_, ?_, ?_⟩
    · rw [M1, ew, aIns_len, k4]
      omega
    · intro x hx
      rw [ew] at hx
      rw [M1]
      rcases ins_m hx with r | r
      · rw [r]
        dsimp only
        omega
      · have := e3 x r
        omega
    · intro x hx h0
      rw [k2] at h0 ⊢
      rw [k3, M1]
      have := e4 x hx h0
      omega
    · rw [ew, aIns_len]
      omega
    · rw [ew]
      exact ins_p e6 (fun y hy => (e3 y hy).2.1)
    · intro x hx y hy h0
      rw [ew] at hx
      rw [k2] at h0 ⊢
      rcases ins_m hx with r | r
      · rw [r]
        dsimp only
        have := e4 y hy h0
        omega
      · exact e7 x r y hy h0
    · intro i
      rw [e 23 (by decide) (by decide)]
      exact e9 i
    · intro i hi
      rw [e 72 (by decide) (by decide)]
      exact e10 i hi
    · rw [e 27 (by decide) (by decide)]
      exact e11
    · intro x hx
      rw [e 31 (by decide) (by decide), e 71 (by decide) (by decide)]
      exact e12 x hx
    · rw [ew, ins_d hu.1, k5]
      exact e13
theorem dr27 {x : Int64} {z : Int32} (h : 0 ≤ z.toInt ∧ z.toInt ≤ 1000) : 0 ≤ (aRnd x (z + 1).toInt64).toInt ∧ (aRnd x (z + 1).toInt64).toInt ≤ 1000 := by
  have e : (z + 1).toInt64 = Int64.ofNat (z.toInt.toNat + 1) := by
    apply Int64.toInt_inj.mp
    rw [Int32.toInt_toInt64, i_add (by rw [L_1]; omega) (by rw [L_1]; omega), L_1, Int64.toInt_ofNat_of_lt (by omega)]
    omega
  have := aRnd_b (x := x) (m := z.toInt.toNat + 1) (by omega) (by omega)
  rw [e]
  omega
theorem Ev_out {l : AL} (h : Ev t B c d a) : Ev t B c d (A_sendOut a l) := by
  have hl : ∀ i, t < (aNow a + aS a 23 i).toInt ∧ (aNow a + aS a 23 i).toInt ≤ t + 1000 := by
    intro i
    have h9 := h.2.2.2.2.2.2.2.2.1 i
    have h1 := h.1
    rw [i_add (by omega) (by omega)]
    omega
  have hB := h.1
  have h27 := h.2.2.2.2.2.2.2.2.2.2.1
  have hr : ∀ b : AA, Ev t B c d b → ∀ m, Ev t B c d (A_draw b m).2 := fun b hb m => Ev_fr (W := []) (T := []) AFr_J (by decide) (by decide) hb
  have hlate : ∀ (i : Nat) (y : Int64), t < (aNow a + aS a 23 i + aRnd y (aS a 27 0 + 1).toInt64).toInt ∧ (aNow a + aS a 23 i + aRnd y (aS a 27 0 + 1).toInt64).toInt ≤ B := by
    intro i y
    have h1 := hl i
    have h2 := dr27 (x := y) h27
    rw [i_add (by omega) (by omega)]
    omega
  unfold A_sendOut
  dsimp only
  split
  · exact Ev_fr (W := [22]) (T := []) AFr_I (by decide) (by decide) h
  · split
    · exact Ev_fly h ⟨(hl _).1, by have := (hl (16 * (l.1 2) + l.1 3).toNatClampNeg).2; omega⟩
    · split
      · exact Ev_fr (W := [22]) (T := []) AFr_I (by decide) (by decide) (hr a h 1000)
      · have g := hr _ (hr _ (hr a h 1000) 1000) (aS a 27 0 + 1)
        have g4 := Ev_fly (l := l) g (hlate (16 * (l.1 2) + l.1 3).toNatClampNeg (aLcg ((A_draw (A_draw a 1000).2 1000).2.1.2 28 0)))
        split
        · exact Ev_fly (hr _ g4 _) (hlate _ _)
        · exact g4
/-- what a path makes of it -/
theorem Pa_Ev {s k : Nat} {P : AL → Prop} (hs : s < 7) (h : Pa s P k a b) : c + k + 200 < 2147483648 → Ev t B c d a → Ev t B (c + k) d b := by
  have key : ∀ c, c + k + 200 < 2147483648 → Ev t B c d a → Ev t B (c + k) d b := by
    refine h (fun k a b => ∀ c, c + k + 200 < 2147483648 → Ev t B c d a → Ev t B (c + k) d b) ⟨fun c _ z => z, fun {k j a b e} h1 h2 c hc z => ?_, fun {k j a b} h1 hk c hc z => Ev_w (by omega) hc (Nat.le_refl _) (h1 c (by omega) z), fun {a f v} hf _ c _ z => ?_, fun {a f p v} hf _ c _ z => ?_, fun _ c _ z => ?_, fun c _ z => ?_, fun c _ z => ?_, fun c _ z => ?_, fun c _ z => ?_, fun c _ z => ?_, fun c _ z => ?_, fun c _ z => ?_, fun _ c _ z => ?_, fun _ c _ z => ?_, fun _ c _ z => ?_, fun c _ z => ?_, fun {a n} h1 h2 c hc z => ?_, fun c _ z => Ev_soil z hs, fun h31 c hc z => Ev_clean z hs h31 hc, fun _ c _ z => Ev_out z⟩
    · have := h2 (c + k) (by omega) (h1 c (by omega) z)
      rw [Nat.add_assoc] at this
      exact this
    · exact Ev_fr AFr_I ((by decide : ∀ f ∈ sF, dj evF [f] = true) f hf) (by decide) z
    · exact Ev_fr AFr_I ((by decide : ∀ f ∈ sc49, dj evF [f] = true) f hf) (by decide) z
    · exact Ev_fr AFr_I (by decide) (by decide) z
    · exact Ev_fr (W := []) (T := []) AFr_J (by decide) (by decide) z
    · exact Ev_fr AFr_lg (by decide) (by decide) z
    · exact Ev_fr AFr_mc (by decide) (by decide) z
    · exact Ev_fr AFr_sh (by decide) (by decide) z
    · exact Ev_fr AFr_pm (by decide) (by decide) z
    · exact Ev_fr AFr_fc (by decide) (by decide) z
    · exact Ev_fr AFr_fk (by decide) (by decide) z
    · exact Ev_fr AFr_ch (by decide) (by decide) z
    · exact Ev_fr AFr_rq (by decide) (by decide) z
    · exact Ev_fr AFr_wt (by decide) (by decide) z
    · exact Ev_fr AFr_wt (by decide) (by decide) z
    · have z1 := z.1
      refine Ev_alarm z (by omega) ?_ hc
      rw [i_add (by rw [Int32.toInt_ofNat_of_lt (by omega)]; omega) (by rw [Int32.toInt_ofNat_of_lt (by omega)]; omega), Int32.toInt_ofNat_of_lt (by omega)]
      omega
  exact key c
theorem Ev_EvOK (h : Ev t B c d a) : EvOK a := by
  obtain ⟨e1, e2, e3, e4, e5, e6, e7, e8, e9, e10, e11, e12, e13⟩ := h
  refine ⟨e6.imp (fun {x y} z => ?_), fun x hx b hb h0 z => ?_, fun b e hb he hne h0 z => ?_⟩
  · rcases z with z | z
    · exact Or.inl (Int32.lt_iff_toInt_lt.mpr z)
    · exact Or.inr ⟨Int32.toInt_inj.mp z.1, Int32.lt_iff_toInt_lt.mpr z.2⟩
  · rw [Int32.le_iff_toInt_le, i_0] at h0
    exact e7 x hx b hb h0 (congrArg Int32.toInt z)
  · rw [Int32.le_iff_toInt_le, i_0] at h0
    exact e8 b e hb he hne h0 (congrArg Int32.toInt z)
end EV0
