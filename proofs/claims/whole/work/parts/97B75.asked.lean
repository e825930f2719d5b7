/-! requests come -/
theorem Lw_4 {F p : Nat} {σ τ : RS} {l : List (Option Int32)} {v k : Int32} (hF : 5 ≤ F) (hp : p < 3584) (hl : l.length + 4 ≤ 256) (h : Lw p σ τ l) (hk : k = Int32.ofNat (256 * p + l.length)) : WP (m_lay4 F τ k v) (fun τ' => Lw p σ τ' (l ++ (a4 v).map some)) := by
  have key : ∀ n j (τ' : RS), 5 ≤ j + n → j ≤ 4 → Lw p σ τ' (l ++ ((a4 v).take j).map some) → WP (m_lay4_b2 F n τ' k v (Int32.ofNat j)) (fun τ' => Lw p σ τ' (l ++ (a4 v).map some)) := by
    intro n
    induction n with
    | zero => intro j τ' h1 h2; omega
    | succ n ih =>
      intro j τ' h1 h2 h3
      unfold m_lay4_b2
      refine WP_if (p := 4 ≤ j) (i_gei (q := 4) (by omega) (by omega)) (fun q => ?_) (fun q => ?_)
      · have : j = 4 := by omega
        subst this
        exact WP_some h3
      · have el : (l ++ ((a4 v).take j).map some).length = l.length + j := by
          rw [List.length_append, List.length_map, List.length_take]
          have : (a4 v).length = 4 := rfl
          omega
        refine WP_call (Lw_lay (n := l.length + j) hp (by omega) h3 el.symm (by rw [hk, i_ad, Nat.add_assoc])) (fun τ2 w2 => ?_)
        rw [i_s]
        refine ih (j + 1) τ2 (by omega) (by omega) ?_
        have ee : l ++ ((a4 v).take (j + 1)).map some = l ++ ((a4 v).take j).map some ++ [some ((v >>> ((24 - 8 * Int32.ofNat j) &&& 31)).toInt8.toInt32.toInt8.toInt32)] := by
          rw [i_b8, List.append_assoc]
          congr 1
          have : j = 0 ∨ j = 1 ∨ j = 2 ∨ j = 3 := by omega
          rcases this with rfl | rfl | rfl | rfl
          · rfl
          · rfl
          · rfl
          · show [some (aLow8 (v >>> 24)), some (aLow8 (v >>> 16)), some (aLow8 (v >>> 8)), some (aLow8 v)] = [some (aLow8 (v >>> 24)), some (aLow8 (v >>> 16)), some (aLow8 (v >>> 8)), some (aLow8 (v >>> 0))]
            rw [Int32.shiftRight_zero]
        rw [ee]
        exact w2
  unfold m_lay4 m_lay4_b0
  refine key F 0 τ (by omega) (Nat.zero_le _) ?_
  rw [List.take_zero, List.map_nil, List.append_nil]
  exact h
def aqQ (l : AL) : AQ := fun j => if j = 1 then l.1 2 else if j = 2 then l.1 5 else 0
theorem asked_reply {F : Nat} {σ : RS} {a : AA} {u : AU} {s : Nat} {l : AL} {kd place : Int32} (hF : 400 ≤ F) (h : RM σ a u) (hs : s < 7) (hc : aInR (l.1 2) 8 15 = true) (hk : ¬ kd = 0) : WP ((m_write σ 11 (l.1 5) kd place 0).bind fun p1 => (m_post F p1 (Int32.ofNat s) (l.1 2)).bind fun p3 => some p3) (fun τ => RM τ (aReply a s (aqQ l) kd place []) u) := by
  unfold aReply
  refine WP_call (M_write (l := (aU (aU (aU (aLet (Int32.ofNat s) (aqQ l 1) 11 (aqQ l 2)).1 6 kd) 7 place) 17 (Int32.ofNat ([] : List Int32).length), [], [], ([], []))) h rfl rfl rfl rfl ⟨wfS hs, Or.inr hc⟩ ?_) (fun p hp => ?_)
  · intro j v hv
    have e : lTd (aAk a) (aU (aU (aU (aLet (Int32.ofNat s) (aqQ l 1) 11 (aqQ l 2)).1 6 kd) 7 place) 17 (Int32.ofNat ([] : List Int32).length), [], [], ([], [])) j = [kd, place][j]? := by
      unfold lTd
      dsimp only
      rw [if_neg (by simp [aU, aLet]), if_neg (by simp [aU, aLet]), if_neg (by simp [aU, aLet]), if_neg (by simp [aU, aLet]), if_neg (by simp [aU, aLet]), if_neg (by simp [aU, aLet]), if_neg (by simp [aU, aLet]), if_pos (by simp [aU, aLet]), if_neg (by simpa [aU, aLet] using hk)]
      rfl
    rw [e] at hv
    match j, hv with
    | 0, hv => exact Or.inl ⟨rfl, (Option.some.inj hv).symm⟩
    | 1, hv => exact Or.inr (Or.inl ⟨rfl, (Option.some.inj hv).symm⟩)
    | j + 2, hv => exact absurd hv (by simp)
  · exact WP_call (M_postM hF hp.1 hs hp.2 rfl rfl) (fun q hq => WP_some hq)
/-- how a request's letter fits -/
def rqOK (K : List AK) (l : AL) : Prop := l.1 4 = 10 ∧ aInR (l.1 2) 8 15 = true ∧ ((l.1 6 = 0 ∧ l.1 12 = 2 ∧ l.1 16 = -1) ∨ ((l.1 6 = 1 ∨ l.1 6 = 2) ∧ 0 ≤ l.1 16 ∧ (l.1 16).toNatClampNeg < K.length ∧ ((K.getD (l.1 16).toNatClampNeg (fun _ => 0, [])).1 1 < 3 ↔ l.1 6 = 1) ∧ l.1 12 = 12 + Int32.ofNat (K.getD (l.1 16).toNatClampNeg (fun _ => 0, [])).2.length))
/-- what a request's letter tells -/
theorem tdA {σ : RS} {a : AA} {u : AU} {l : AL} (h : RM σ a u) (hl : u.1.1 = some l) (hq : rqOK (aAk a) l) : σ.1 9 353 = l.1 5 ∧ (l.1 6 = 0 → σ.1 12 2824 = 6 ∧ σ.1 12 2829 = 0) ∧
    (¬ l.1 6 = 0 → ∃ k, (aAk a).getD (l.1 16).toNatClampNeg (fun _ => 0, []) = k ∧ wfK k ∧ lBs (aAk a) l = k.2 ∧ σ.1 12 2824 = k.1 1 ∧ σ.1 12 2825 = l.1 14 ∧ σ.1 12 2826 = l.1 15 ∧ σ.1 12 2827 = k.1 7 ∧ σ.1 12 2828 = k.1 8 ∧ σ.1 12 2829 = Int32.ofNat k.2.length ∧ ∀ y, y < k.2.length → rLb σ 353 y = k.2.getD y 0) := by
  obtain ⟨_, _, _, e9, _, _, _, _, g, gb, _⟩ := h_inl h hl
  obtain ⟨h10, hc, hq⟩ := hq
  have e : ∀ j, lTd (aAk a) l j = (if l.1 6 = 0 then (if j = 0 then some 6 else if j = 5 then some 0 else none) else [((aAk a).getD (l.1 16).toNatClampNeg (fun _ => 0, [])).1 1, l.1 14, l.1 15, ((aAk a).getD (l.1 16).toNatClampNeg (fun _ => 0, [])).1 7, ((aAk a).getD (l.1 16).toNatClampNeg (fun _ => 0, [])).1 8, Int32.ofNat ((aAk a).getD (l.1 16).toNatClampNeg (fun _ => 0, [])).2.length][j]?) := by
    intro j
    unfold lTd
    dsimp only
    rw [if_neg (by rw [h10]; decide), if_neg (by rw [h10]; decide), if_neg (by rw [h10]; decide), if_neg (by rw [h10]; decide), if_neg (by rw [h10]; decide), if_neg (by rw [h10]; decide), if_pos h10]
  refine ⟨e9, fun h0 => ?_, fun h0 => ?_⟩
  · have e0 := e 0
    have e5 := e 5
    rw [if_pos h0] at e0 e5
    exact ⟨g 0 _ e0, g 5 _ e5⟩
  · refine ⟨_, rfl, ?_⟩
    rcases hq with z | ⟨z1, z2, z3, z4, z5⟩
    · exact absurd z.1 h0
    · have wk := (h.2.2.2.2.2.2.2.2.2.2.2.2.2.1).2.2.1
      have eb : lBs (aAk a) l = ((aAk a).getD (l.1 16).toNatClampNeg (fun _ => 0, [])).2 := by
        unfold lBs
        rw [if_neg (by rw [h10]; decide), if_pos h10, if_neg h0]
      have ee : ∀ j, lTd (aAk a) l j = _ := fun j => (e j).trans (if_neg h0)
      refine ⟨wk _ ?_, eb, g 0 _ (ee 0), g 1 _ (ee 1), g 2 _ (ee 2), g 3 _ (ee 3), g 4 _ (ee 4), g 5 _ (ee 5), fun y hy => ?_⟩
      · rw [List.getD_eq_getElem?_getD, List.getElem?_eq_getElem z3]
        exact List.getElem_mem _
      · refine gb y _ ?_
        rw [eb, List.getD_eq_getElem?_getD (l := ((aAk a).getD (l.1 16).toNatClampNeg (fun _ => 0, [])).2), List.getElem?_eq_getElem hy]
        rfl
