/-! calls of the face: noise, delays of the disk, meddling, asking -/
section FC1
variable {t B B' c d k : Nat} {a b : AA}
/-- only what the world is told changed -/
theorem Ev_cfg (hn : ∀ f, f ∈ [1, 2, 29, 30, 31, 32, 71] → ∀ i, aS b f i = aS a f i) (ew : aWay b = aWay a) (h23 : ∀ i, 1 ≤ (aS b 23 i).toInt ∧ (aS b 23 i).toInt ≤ 1000) (h72 : ∀ s, s < 7 → 0 ≤ (aS b 72 s).toInt ∧ (aS b 72 s).toInt ≤ 1000) (h27 : 0 ≤ (aS b 27 0).toInt ∧ (aS b 27 0).toInt ≤ 1000) (h : Ev t B c d a) : Ev t B c d b := by
  have en : aBn b = aBn a := by
    funext y
    unfold aBn
    rw [hn 29 (by decide), hn 31 (by decide)]
  have et : aBt b = aBt a := by
    funext y
    unfold aBt
    rw [hn 30 (by decide), hn 32 (by decide)]
  have eR : drt b = drt a := sumN_eq 7 (fun y _ => by rw [hn 71 (by decide)])
  have eD : dueB t b = dueB t a := sumN_eq 16 (fun y _ => by rw [hn 29 (by decide), hn 30 (by decide)])
  obtain ⟨e1, e2, e3, e4, e5, e6, e7, e8, e9, e10, e11, e12, e13⟩ := h
  exact ⟨⟨(congrArg Int32.toInt (hn 1 (by decide) 0)).trans e1.1, e1.2⟩, by rw [hn 2 (by decide), ew, eR]; exact e2, by rw [ew, hn 2 (by decide)]; exact e3, by rw [en, et, hn 2 (by decide)]; exact e4, by rw [ew]; exact e5, by rw [ew]; exact e6, by rw [ew, en]; exact e7, by rw [en]; exact e8, h23, h72, h27, fun s hs => by rw [hn 31 (by decide), hn 71 (by decide)]; exact e12 s hs, by rw [ew, eD]; exact e13⟩
theorem inR_k {x lo hi : Int32} (q : ¬ (!aInR x lo hi) = true) : lo.toInt ≤ x.toInt ∧ x.toInt ≤ hi.toInt := by
  have q2 : aInR x lo hi = true := by
    cases z : aInR x lo hi
    · rw [z] at q
      exact absurd rfl q
    · rfl
  unfold aInR at q2
  rw [Bool.and_eq_true_iff, decide_eq_true_eq, decide_eq_true_eq, Int32.le_iff_toInt_le, Int32.le_iff_toInt_le] at q2
  exact q2
theorem Wd_J {f i : Nat} {v : Int64} (w : Wd a) : Wd (aJ a f i v) := w
theorem EW_noise {x y z : Int32} {v : Int64} (h : Ev t B c d a) (w : Wd a) : Ev t B c d (A_noise a x y z v).1 ∧ Wd (A_noise a x y z v).1 := by
  unfold A_noise
  by_cases q : (!aInR x 0 1000 || !aInR y 0 1000 || !aInR z 0 1000) = true
  · rw [if_pos q]
    exact ⟨h, w⟩
  · rw [if_neg q]
    have qz : ¬ (!aInR z 0 1000) = true := fun r => q (by rw [r, Bool.or_true])
    have hz := inR_k qz
    rw [i_0, L_1000] at hz
    refine ⟨?_, Wd_J (Wd_nn (by decide) (Wd_nn (by decide) (Wd_nn (by decide) w)))⟩
    have h1 : Ev t B c d (aI (aI a 25 0 x) 26 0 y) := Ev_nn (by decide) (Ev_nn (by decide) h)
    have h2 : Ev t B c d (aI (aI (aI a 25 0 x) 26 0 y) 27 0 z) := by
      refine Ev_cfg (a := aI (aI a 25 0 x) 26 0 y) (fun f hf i => aS_If (fun r => ?_)) rfl (fun i => ?_) (fun s hs => ?_) ?_ h1
      · rw [r] at hf
        exact absurd hf (by decide)
      · rw [aS_If (by decide)]
        exact h1.2.2.2.2.2.2.2.2.1 i
      · rw [aS_If (by decide)]
        exact h1.2.2.2.2.2.2.2.2.2.1 s hs
      · rw [evI_e]
        exact hz
    exact Ev_fr (W := []) (T := []) AFr_J (by decide) (by decide) h2
theorem EW_latency {s n : Int32} (h : Ev t B c d a) (w : Wd a) : Ev t B c d (A_latency a s n).1 ∧ Wd (A_latency a s n).1 := by
  unfold A_latency
  split
  · exact ⟨h, w⟩
  · split
    · exact ⟨h, w⟩
    · rename_i q
      have hn := inR_k q
      rw [i_0, L_1000] at hn
      refine ⟨?_, Wd_nn (by decide) w⟩
      refine Ev_cfg (a := a) (fun f hf i => aS_If (fun r => ?_)) rfl (fun i => ?_) (fun x hx => ?_) ?_ h
      · rw [r] at hf
        exact absurd hf (by decide)
      · show 1 ≤ (aS (aI a 72 s.toNatClampNeg n) 23 i).toInt ∧ (aS (aI a 72 s.toNatClampNeg n) 23 i).toInt ≤ 1000
        rw [aS_If (by decide)]
        exact h.2.2.2.2.2.2.2.2.1 i
      · show 0 ≤ (aS (aI a 72 s.toNatClampNeg n) 72 x).toInt ∧ (aS (aI a 72 s.toNatClampNeg n) 72 x).toInt ≤ 1000
        by_cases z : x = s.toNatClampNeg
        · rw [z, evI_e]
          exact hn
        · rw [evI_i z]
          exact h.2.2.2.2.2.2.2.2.2.1 x hx
      · show 0 ≤ (aS (aI a 72 s.toNatClampNeg n) 27 0).toInt ∧ (aS (aI a 72 s.toNatClampNeg n) 27 0).toInt ≤ 1000
        rw [aS_If (by decide)]
        exact h.2.2.2.2.2.2.2.2.2.2.1
theorem Ev_B (hB : B ≤ B') (hB2 : B' < 1073741824) (h : Ev t B c d a) : Ev t B' c d a := by
  obtain ⟨e1, e2, e3, e4, e5, e6, e7, e8, e9, e10, e11, e12, e13⟩ := h
  refine ⟨⟨e1.1, by omega, hB2, e1.2.2.2⟩, e2, fun x hx => ?_, fun b hb h0 => ?_, e5, e6, e7, e8, e9, e10, e11, e12, e13⟩
  · have := e3 x hx
    omega
  · have := e4 b hb h0
    omega
theorem due_sub {v w : List AP} (h : v.Sublist w) : dueW t v ≤ dueW t w := (h.filter _).length_le
/-- a letter is gone -/
theorem Ev_sub {v : List AP} (h : Ev t B c d a) (hs : v.Sublist (aWay a)) (hl : v.length + 1 = (aWay a).length) (hc : c + 1 + 200 < 2147483648) : Ev t B (c + 1) d (aWayS a v) := by
  obtain ⟨e1, e2, e3, e4, e5, e6, e7, e8, e9, e10, e11, e12, e13⟩ := h
  have hd := due_sub (t := t) hs
  refine ⟨⟨e1.1, e1.2.1, e1.2.2.1, hc⟩, ⟨e2.1, ?_⟩, fun y hy => e3 y (hs.subset hy), e4, ?_, e6.sublist hs, fun y hy => e7 y (hs.subset hy), e8, e9, e10, e11, e12, ?_⟩
  · show (aS a 2 0).toInt ≤ ((c + 1 : Nat) : Int) + ((v.length : Nat) : Int) + ((drt a : Nat) : Int)
    omega
  · show v.length ≤ 128
    omega
  · show dueW t v + dueB t a ≤ d
    omega
theorem Wd_sub {v : List AP} (w : Wd a) (hs : v.Sublist (aWay a)) : Wd (aWayS a v) := ⟨w.1, fun y hy => w.2.1 y (hs.subset hy), w.2.2.1, w.2.2.2⟩
/-- a letter is put on the way with a new number -/
theorem Ev_ins {l : AL} {u : Int32} (h : Ev t B c d a) (hl : (aWay a).length < 128) (hu : t ≤ u.toInt ∧ u.toInt ≤ B) : Ev t B c (d + 1) (aWayS (aAdd a 2 0 1) (aIns (u, aS a 2 0, l) (aWay a))) := by
  have d7 := drt_7 (a := a)
  have e : ∀ f, f ≠ 2 → ∀ i, aS (aWayS (aAdd a 2 0 1) (aIns (u, aS a 2 0, l) (aWay a))) f i = aS a f i := fun f h2 i => aS_If h2
  have e2 : aS (aWayS (aAdd a 2 0 1) (aIns (u, aS a 2 0, l) (aWay a))) 2 0 = aS a 2 0 + 1 := (show aS (aAdd a 2 0 1) 2 0 = _ from evI_e)
  have ew : aWay (aWayS (aAdd a 2 0 1) (aIns (u, aS a 2 0, l) (aWay a))) = aIns (u, aS a 2 0, l) (aWay a) := rfl
  generalize aWayS (aAdd a 2 0 1) (aIns (u, aS a 2 0, l) (aWay a)) = b at e e2 ew ⊢
  obtain ⟨e1, e2', e3, e4, e5, e6, e7, e8, e9, e10, e11, e12, e13⟩ := h
  have M1 : (aS b 2 0).toInt = (aS a 2 0).toInt + 1 := by
    rw [e2, i_add (by rw [L_1]; omega) (by rw [L_1]; omega), L_1]
  have k1 : aNow b = aNow a := e 1 (by decide) 0
  have k2 : aBn b = aBn a := by
    funext x
    unfold aBn
    rw [e 29 (by decide), e 31 (by decide)]
  have k3 : aBt b = aBt a := by
    funext x
    unfold aBt
    rw [e 30 (by decide), e 32 (by decide)]
  have k4 : drt b = drt a := sumN_eq 7 (fun x _ => by rw [e 71 (by decide)])
  have k5 : dueB t b = dueB t a := sumN_eq 16 (fun x _ => by rw [e 29 (by decide), e 30 (by decide)])
  have k6 : ∀ w : List AP, dueW t (aIns (u, aS a 2 0, l) w) ≤ dueW t w + 1 := by
    intro w
    induction w with
    | nil =>
      show dueW t [(u, aS a 2 0, l)] ≤ dueW t [] + 1
      exact Nat.le_trans (List.length_filter_le _ _) (Nat.le_add_left 1 _)
    | cons y w ih =>
      rw [ins_c]
      split
      · by_cases r : y.1.toInt ≤ (t : Int)
        · rw [due_p r, due_p r]
          omega
        · rw [due_n r, due_n r]
          exact ih
      · by_cases r : u.toInt ≤ (t : Int)
        · rw [due_p (y := (u, aS a 2 0, l)) r]
          exact Nat.le_refl _
        · rw [due_n (y := (u, aS a 2 0, l)) r]
          omega
  refine ⟨⟨by rw [k1]; exact e1.1, e1.2⟩, ?_, ?_, ?_, ?_, ?_, ?_, by rw [k2]; exact e8, ?_, ?_, ?_, ?_, ?_⟩
  · rw [M1, ew, aIns_len, k4]
    omega
  · intro x hx
    rw [ew] at hx
    rw [M1]
    rcases ins_m hx with r | r
    · rw [r]
      dsimp only
      omega
    · have := e3 x r
      omega
  · intro x hx h0
    rw [k2] at h0 ⊢
    rw [k3, M1]
    have := e4 x hx h0
    omega
  · rw [ew, aIns_len]
    omega
  · rw [ew]
    exact ins_p e6 (fun y hy => (e3 y hy).2.1)
  · intro x hx y hy h0
    rw [ew] at hx
    rw [k2] at h0 ⊢
    rcases ins_m hx with r | r
    · rw [r]
      dsimp only
      have := e4 y hy h0
      omega
    · exact e7 x r y hy h0
  · intro i
    rw [e 23 (by decide)]
    exact e9 i
  · intro i hi
    rw [e 72 (by decide)]
    exact e10 i hi
  · rw [e 27 (by decide)]
    exact e11
  · intro x hx
    rw [e 31 (by decide), e 71 (by decide)]
    exact e12 x hx
  · have := k6 (aWay a)
    rw [ew, k5]
    omega
theorem Wd_ins {l : AL} {u v : Int32} (w : Wd a) (hl : ltP (aAk a) l) : Wd (aWayS (aAdd a 2 0 1) (aIns (u, v, l) (aWay a))) := by
  have w1 : Wd (aAdd a 2 0 1) := Wd_nn (by decide) w
  refine ⟨w1.1, fun x hx => ?_, w1.2.2.1, w1.2.2.2⟩
  rcases ins_m (show x ∈ aIns (u, v, l) (aWay a) from hx) with r | r
  · rw [r]
    exact hl
  · exact w.2.1 x r
theorem Wd_fly {l : AL} {u : Int32} (w : Wd a) (hl : ltP (aAk a) l) : Wd (A_fly a l u) := by
  have hF := AFr_fly (a := a) (l := l) (t := u)
  have ek : aAk (A_fly a l u) = aAk a := hF.2.2.2.2.2.2.2.2.2.2.2.1 (by decide)
  refine ⟨fun s hs => Ph_fr hF (by decide) (by decide) (w.1 s hs), fun x hx => ?_, fun i hi => cF_fr (fun f hf => ?_) (hF.1 29 (by decide) _) (by rw [ek]; exact Nat.le_refl _) (w.2.2.1 i hi), by rw [hF.1 29 (by decide)]; exact w.2.2.2⟩
  · rw [ek]
    rcases fly_way hx with r | r
    · exact w.2.1 x r
    · rw [r]
      exact hl
  · rcases hf with rfl | rfl | rfl
    · exact hF.1 124 (by decide) i
    · exact hF.1 125 (by decide) i
    · exact hF.1 137 (by decide) i
theorem EW_meddle {j what n : Int32} (h : Ev t B c d a) (w : Wd a) (hB2 : B + 1000 < 1073741824) (hc : c + 1 + 200 < 2147483648) : Ev t (B + 1000) (c + 1) (d + 1) (A_meddle a j what n).1 ∧ Wd (A_meddle a j what n).1 := by
  have up : ∀ {b : AA}, Ev t B c d b → Ev t (B + 1000) (c + 1) (d + 1) b := fun hb => Ev_B (by omega) hB2 (Ev_w (by omega) hc (by omega) hb)
  unfold A_meddle
  by_cases q : (!aInR what 0 2 || !aInR n 0 1000) = true
  · rw [if_pos q]
    exact ⟨up h, w⟩
  · rw [if_neg q]
    have qn : ¬ (!aInR n 0 1000) = true := fun r => q (by rw [r, Bool.or_true])
    have hn := inR_k qn
    rw [i_0, L_1000] at hn
    split
    · exact ⟨up h, w⟩
    · cases eg : (aWay a)[j.toNatClampNeg]? with
      | none => exact ⟨up h, w⟩
      | some x =>
        have hlt := (List.getElem?_eq_some_iff.mp eg).1
        have hx : x ∈ aWay a := List.mem_of_getElem? eg
        have hs : ((aWay a).eraseIdx j.toNatClampNeg).Sublist (aWay a) := List.eraseIdx_sublist _ _
        have hl : ((aWay a).eraseIdx j.toNatClampNeg).length + 1 = (aWay a).length := by
          rw [List.length_eraseIdx_of_lt hlt]
          omega
        have hP := w.2.1 x hx
        have h3 := h.2.2.1 x hx
        have h1 := h.1
        dsimp only
        split
        · exact ⟨Ev_B (by omega) hB2 (Ev_w (Nat.le_refl _) hc (by omega) (Ev_nn (by decide) (Ev_sub h hs hl hc))), Wd_nn (by decide) (Wd_sub w hs)⟩
        · split
          · have h9 := h.2.2.2.2.2.2.2.2.1 (16 * (x.2.2.1 2) + x.2.2.1 3).toNatClampNeg
            refine ⟨up (Ev_fly h ?_), Wd_fly w hP⟩
            rw [i_add (by omega) (by omega)]
            omega
          · have g := Ev_B (B' := B + 1000) (by omega) hB2 (Ev_sub h hs hl hc)
            have hlen := h.2.2.2.2.1
            have g2 := Ev_ins (l := x.2.2) (u := x.1 + n) g (by
              show ((aWay a).eraseIdx j.toNatClampNeg).length < 128
              omega) (by
              rw [i_add (by omega) (by omega)]
              omega)
            exact ⟨g2, Wd_ins (Wd_sub w hs) hP⟩
theorem Kg_app {K : List AK} {q : AK} : Kg K (K ++ [q]) := by
  refine ⟨by rw [List.length_append]; exact Nat.le_add_right _ _, fun j hj => ?_⟩
  have e : (K ++ [q]).getD j (fun _ => 0, []) = K.getD j (fun _ => 0, []) := by
    rw [List.getD_eq_getElem?_getD, List.getElem?_append_left hj, ← List.getD_eq_getElem?_getD]
  rw [e]
  exact ⟨rfl, rfl⟩
end FC1
