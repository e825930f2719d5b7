/-! the files of a server whose disk was read -/
def fT (G : AF) : AF := (aU G.1 1 (Int32.ofInt (aFrame G.2.1 (aWhole G).length)), aWhole G, G.2.2)
def fC (K : List AK) (G : AF) : AF := (aU G.1 1 (Int32.ofNat (ofs K G.2.1 (aWhole G).length)), G.2)
def fX (G : AF) : AF := (aU (aU G.1 0 0) 1 0, G.2)
theorem segF_wf {K : List AK} {σ : RS} {k S : Nat} {G : AF} (h : SegF K σ k G S) : ∀ e ∈ G.2.1, wfE K e ∧ (eCon K e).length ≤ 256 := h.2.2.2.2.2.2
theorem frame_ofs {K : List AK} {G : AF} {i : Nat} (h : ∀ e ∈ G.2.1, wfE K e ∧ (eCon K e).length ≤ 256) : Int32.ofInt (aFrame G.2.1 i) = Int32.ofNat (ofs K G.2.1 i) := by
  rw [ofs_a h]
  exact Int32.ofInt_eq_ofNat
theorem fT_1 {K : List AK} {G : AF} (h : ∀ e ∈ G.2.1, wfE K e ∧ (eCon K e).length ≤ 256) : (fT G).1 1 = Int32.ofNat (ofs K G.2.1 (aWhole G).length) := frame_ofs h
theorem take_whole {G : AF} (h : aWhole G = G.2.1.take (aWhole G).length) {k : Nat} (hk : k ≤ (aWhole G).length) : (aWhole G).take k = G.2.1.take k := by
  rw [h, List.take_take, Nat.min_eq_left hk]
theorem fT_whole {K : List AK} {σ : RS} {k S : Nat} {G : AF} (h : SegF K σ k G S) : aWhole (fT G) = aWhole G := by
  obtain ⟨w1, w2, w3, w4⟩ := seg_whole h
  have hS := h.2.2.1
  have hw := segF_wf h
  have e1 : ((fT G).1 1).toInt = aFrame G.2.1 (aWhole G).length := by
    rw [fT_1 (K := K) hw, Int32.toInt_ofNat_of_lt (by omega), ofs_a hw]
  have h2 : ∀ x ∈ aWhole G, 0 ≤ aEsz x := by
    intro x hx
    have := hw x (aWhole_sub x hx)
    have := aEsz_pos this.1 this.2
    omega
  have h3 : ((aWhole G).map aEsz).sum ≤ aFrame G.2.1 (aWhole G).length - 24 := by
    unfold aFrame
    rw [← w4]
    omega
  show (aWhole G).take (aWholes (aWhole G) (((fT G).1 1).toInt - 24)) = aWhole G
  rw [e1, aWholes_all (aWhole G) _ h2 h3, List.take_length]
theorem frame_T {G : AF} (h : aWhole G = G.2.1.take (aWhole G).length) {k : Nat} (hk : k ≤ (aWhole G).length) : aFrame (fT G).2.1 k = aFrame G.2.1 k := by
  show aFrame (aWhole G) k = _
  unfold aFrame
  rw [take_whole h hk]
theorem flat_tk2 {α β : Type} {l : List α} {g : α → List β} {n : Nat} : ∃ r, l.flatMap g = (l.take n).flatMap g ++ r := by
  refine ⟨(l.drop n).flatMap g, ?_⟩
  rw [← List.flatMap_append, List.take_append_drop]
/-- a file as long as its whole entries -/
theorem RFl_T {K : List AK} {σ σ' : RS} {k f S : Nat} {G : AF} (h : RFl K σ k f G) (hS : SegF K σ k G S) (hf : 4 ≤ f) (e : ∀ g, g ∈ [38, 39, 40, 41, 42] → σ'.1 g k = σ.1 g k) (e36 : σ'.2 36 = σ.2 36) (h38 : G.1 0 = 1) (e37 : σ'.1 37 k = Int32.ofNat (ofs K G.2.1 (aWhole G).length)) : RFl K σ' k f (fT G) := by
  obtain ⟨h1, h2, h3, _, h8, h9, h10⟩ := h
  obtain ⟨w1, w2, w3, w4⟩ := seg_whole hS
  obtain ⟨s1, s2, s3, s4, s5, s6, s7⟩ := hS
  have hw : ∀ e ∈ G.2.1, wfE K e ∧ (eCon K e).length ≤ 256 := s7
  have eb : fBy K f (fT G) = aHead (G.1 2) (G.1 3) ++ (aWhole G).flatMap (eFrame K) := by
    unfold fBy
    rw [if_neg (by omega), if_neg (by omega)]
    rfl
  refine ⟨(e 38 (by simp)).trans h1, h2, e37.trans (fT_1 hw).symm, ⟨ofs K G.2.1 (aWhole G).length, by omega, fT_1 hw, fun z => ?_, fun _ => ?_, ?_⟩, fun x hx => hw x (aWhole_sub x hx), fun x => by omega, fun x y => by omega⟩
  · have z : G.1 0 = 0 := z
    rw [h38] at z
    exact absurd z (by decide)
  · rw [eb, ofs_len]
    unfold ofs
    rw [← w4, List.take_length]
    exact Nat.le_refl _
  · intro i v hi hv
    rw [eb] at hv
    show rB (σ'.2 36) (14000 * k + i) = v
    rw [e36]
    refine s6 i v (by omega) ?_
    obtain ⟨r, hr⟩ := @flat_tk2 _ _ G.2.1 (eFrame K) (aWhole G).length
    rw [hr, ← w4, ← List.append_assoc, List.getElem?_append_left ?_]
    · exact hv
    · obtain ⟨q, _⟩ := List.getElem?_eq_some_iff.mp hv
      exact q
