/-! what is found on a disk: words, segments, frames -/
theorem M_readAt {σ : RS} {k o : Nat} {v : Int32} (hk : k < 224) (ho : o + 4 ≤ 14000) (h : ∀ q x, (a4 v)[q]? = some x → rB (σ.2 36) (14000 * k + (o + q)) = x) : m_readAt σ (Int32.ofNat k) (Int32.ofNat o) = some (v, σ) := by
  unfold m_readAt
  rw [show (14000 : Int32) * Int32.ofNat k + Int32.ofNat o = Int32.ofNat (14000 * k + o) from i_ma (c := 14000), show Int32.ofNat (14000 * k + o) + 1 = Int32.ofNat (14000 * k + o + 1) from i_s, show Int32.ofNat (14000 * k + o) + 2 = Int32.ofNat (14000 * k + o + 2) from i_ad, show Int32.ofNat (14000 * k + o) + 3 = Int32.ofNat (14000 * k + o + 3) from i_ad]
  rw [m_onDisk_n (by omega)]
  simp only [Option.bind_some]
  rw [m_onDisk_n (by omega)]
  simp only [Option.bind_some]
  rw [m_onDisk_n (by omega)]
  simp only [Option.bind_some]
  rw [m_onDisk_n (by omega)]
  simp only [Option.bind_some]
  have h0 := h 0 _ rfl
  have h1 := h 1 _ rfl
  have h2 := h 2 _ rfl
  have h3 := h 3 _ rfl
  rw [show 14000 * k + (o + 0) = 14000 * k + o by omega] at h0
  rw [show 14000 * k + (o + 1) = 14000 * k + o + 1 by omega] at h1
  rw [show 14000 * k + (o + 2) = 14000 * k + o + 2 by omega] at h2
  rw [show 14000 * k + (o + 3) = 14000 * k + o + 3 by omega] at h3
  rw [h0, h1, h2, h3]
  show some (_ ||| _, σ) = some (v, σ)
  congr 2
  exact i_cat
/-- a segment lies in a place, so far as it is there -/
def SegF (K : List AK) (σ : RS) (k : Nat) (G : AF) (S : Nat) : Prop := k < 224 ∧ 24 ≤ S ∧ S ≤ 14000 ∧ G.1 1 = Int32.ofNat S ∧ S ≤ (aHead (G.1 2) (G.1 3) ++ G.2.1.flatMap (eFrame K)).length ∧ bM (fun i => rB (σ.2 36) (14000 * k + i)) (aHead (G.1 2) (G.1 3) ++ G.2.1.flatMap (eFrame K)) S ∧ ∀ e ∈ G.2.1, wfE K e ∧ (eCon K e).length ≤ 256
theorem SegF_of {K : List AK} {σ : RS} {k f : Nat} {G : AF} (h : RFl K σ k f G) (hk : k < 224) (hf : 4 ≤ f) (hs : 24 ≤ G.1 1) : ∃ S, SegF K σ k G S := by
  obtain ⟨h1, h2, h3, ⟨S, hS, h4, h5, h6, h7⟩, h8, h9, h10⟩ := h
  have h24 : 24 ≤ S := by
    rw [h4, show (24 : Int32) = Int32.ofNat 24 from rfl, i_ltn (by omega) (by omega)] at hs
    exact hs
  rw [fBy_4 hf] at h6 h7
  exact ⟨S, hk, h24, hS, h4, h6 hf, h7, h8⟩
theorem aHead_at {n t : Int32} {q : Nat} {x : Int32} : ((a4 n)[q]? = some x → (aHead n t)[8 + q]? = some (some x)) ∧ ((a4 t)[q]? = some x → (aHead n t)[12 + q]? = some (some x)) := by
  constructor
  · intro h
    match q, h with
    | 0, h => rw [← Option.some.inj h]; rfl
    | 1, h => rw [← Option.some.inj h]; rfl
    | 2, h => rw [← Option.some.inj h]; rfl
    | 3, h => rw [← Option.some.inj h]; rfl
    | q + 4, h => exact absurd h (by simp [a4])
  · intro h
    match q, h with
    | 0, h => rw [← Option.some.inj h]; rfl
    | 1, h => rw [← Option.some.inj h]; rfl
    | 2, h => rw [← Option.some.inj h]; rfl
    | 3, h => rw [← Option.some.inj h]; rfl
    | q + 4, h => exact absurd h (by simp [a4])
theorem a4_lt {v x : Int32} {q : Nat} (h : (a4 v)[q]? = some x) : q < 4 := by
  obtain ⟨h1, _⟩ := List.getElem?_eq_some_iff.mp h
  exact h1
theorem seg_head {K : List AK} {σ τ : RS} {k S : Nat} {G : AF} (h : SegF K σ k G S) (e36 : τ.2 36 = σ.2 36) : m_readAt τ (Int32.ofNat k) 8 = some (G.1 2, τ) ∧ m_readAt τ (Int32.ofNat k) 12 = some (G.1 3, τ) := by
  obtain ⟨hk, h24, hS, h4, h6, h7, h8⟩ := h
  constructor
  · refine M_readAt (o := 8) hk (by omega) (fun q x hx => ?_)
    have hq := a4_lt hx
    have y := (aHead_at (n := G.1 2) (t := G.1 3)).1 hx
    rw [e36]
    exact h7 (8 + q) x (by omega) (by
      rw [List.getElem?_append_left (by rw [aHead_l]; omega)]
      exact y)
  · refine M_readAt (o := 12) hk (by omega) (fun q x hx => ?_)
    have hq := a4_lt hx
    have y := (aHead_at (n := G.1 2) (t := G.1 3)).2 hx
    rw [e36]
    exact h7 (12 + q) x (by omega) (by
      rw [List.getElem?_append_left (by rw [aHead_l]; omega)]
      exact y)
/-- where a frame begins -/
def ofs (K : List AK) (es : List AE) (i : Nat) : Nat := 24 + ((es.take i).flatMap (eFrame K)).length
theorem ofs_a {K : List AK} {es : List AE} {i : Nat} (h : ∀ e ∈ es, wfE K e ∧ (eCon K e).length ≤ 256) : aFrame es i = (ofs K es i : Int) := by
  unfold aFrame ofs
  rw [frames_l (K := K) _ (fun e he => h e (List.mem_of_mem_take he))]
  omega
theorem ofs_s {K : List AK} {es : List AE} {i : Nat} (hi : i < es.length) : ofs K es (i + 1) = ofs K es i + (25 + (eCon K (es.getD i aE0)).length) := by
  unfold ofs
  rw [take_s (d := aE0) hi, List.flatMap_append, List.length_append, List.flatMap_cons, List.flatMap_nil, List.append_nil, eFrame_l]
  omega
theorem ofs_len {K : List AK} {es : List AE} {n t : Int32} : (aHead n t ++ es.flatMap (eFrame K)).length = ofs K es es.length := by
  unfold ofs
  rw [List.take_length, List.length_append, aHead_l]
/-- a frame's bytes -/
theorem seg_at {K : List AK} {σ : RS} {k S i q : Nat} {G : AF} {x : Int32} (h : SegF K σ k G S) (hi : i < G.2.1.length) (hq : ofs K G.2.1 i + q < S) (hx : (eFrame K (G.2.1.getD i aE0))[q]? = some (some x)) : rB (σ.2 36) (14000 * k + (ofs K G.2.1 i + q)) = x := by
  obtain ⟨hk, h24, hS, h4, h6, h7, h8⟩ := h
  refine h7 (ofs K G.2.1 i + q) x hq ?_
  have es : G.2.1 = G.2.1.take i ++ G.2.1.getD i aE0 :: G.2.1.drop (i + 1) := by
    have h1 := (List.take_append_drop i G.2.1).symm
    have h2 : G.2.1.drop i = G.2.1.getD i aE0 :: G.2.1.drop (i + 1) := by
      rw [List.drop_eq_getElem_cons hi, List.getD_eq_getElem?_getD, List.getElem?_eq_getElem hi]
      rfl
    rw [h2] at h1
    exact h1
  have el : (eFrame K (G.2.1.getD i aE0)).length > q := by
    obtain ⟨h1, _⟩ := List.getElem?_eq_some_iff.mp hx
    exact h1
  have e1 : (aHead (G.1 2) (G.1 3) ++ G.2.1.flatMap (eFrame K))[ofs K G.2.1 i + q]? = (eFrame K (G.2.1.getD i aE0))[q]? := by
    have e2 : G.2.1.flatMap (eFrame K) = (G.2.1.take i).flatMap (eFrame K) ++ (eFrame K (G.2.1.getD i aE0) ++ (G.2.1.drop (i + 1)).flatMap (eFrame K)) := by
      have h3 : G.2.1.flatMap (eFrame K) = (G.2.1.take i ++ G.2.1.getD i aE0 :: G.2.1.drop (i + 1)).flatMap (eFrame K) := congrArg (fun L => L.flatMap (eFrame K)) es
      rw [List.flatMap_append, List.flatMap_cons] at h3
      exact h3
    rw [e2]
    unfold ofs
    rw [List.getElem?_append_right (by rw [aHead_l]; omega), aHead_l, List.getElem?_append_right (by omega), show 24 + ((G.2.1.take i).flatMap (eFrame K)).length + q - 24 - ((G.2.1.take i).flatMap (eFrame K)).length = q by omega, List.getElem?_append_left el]
  rw [e1]
  exact hx
theorem eFr_at {K : List AK} {e : AE} {q : Nat} {x : Int32} : ((a4 (17 + e.2.2.1))[q]? = some x → (eFrame K e)[q]? = some (some x)) ∧ ((a4 e.1)[q]? = some x → (eFrame K e)[8 + q]? = some (some x)) ∧ ((a4 e.2.1)[q]? = some x → (eFrame K e)[12 + q]? = some (some x)) ∧ ((a4 e.2.2.1)[q]? = some x → (eFrame K e)[16 + q]? = some (some x)) ∧ (∀ y, (eCon K e)[q]? = some y → (eFrame K e)[25 + q]? = some y) := by
  have hl : ((a4 (17 + e.2.2.1) ++ a4 0 ++ a4 e.1 ++ a4 e.2.1 ++ a4 e.2.2.1 ++ a4 0).map some ++ [(none : Option Int32)]).length = 25 := rfl
  have pre : ∀ (j : Nat) (y : Option Int32), ((a4 (17 + e.2.2.1) ++ a4 0 ++ a4 e.1 ++ a4 e.2.1 ++ a4 e.2.2.1 ++ a4 0).map some ++ [(none : Option Int32)])[j]? = some y → (eFrame K e)[j]? = some y := by
    intro j y hy
    unfold eFrame
    rw [List.getElem?_append_left (by
      obtain ⟨h1, _⟩ := List.getElem?_eq_some_iff.mp hy
      exact h1)]
    exact hy
  refine ⟨fun h => ?_, fun h => ?_, fun h => ?_, fun h => ?_, fun y h => ?_⟩
  · match q, h with
    | 0, h => exact pre _ _ (by rw [← Option.some.inj h]; rfl)
    | 1, h => exact pre _ _ (by rw [← Option.some.inj h]; rfl)
    | 2, h => exact pre _ _ (by rw [← Option.some.inj h]; rfl)
    | 3, h => exact pre _ _ (by rw [← Option.some.inj h]; rfl)
    | q + 4, h => exact absurd h (by simp [a4])
  · match q, h with
    | 0, h => exact pre _ _ (by rw [← Option.some.inj h]; rfl)
    | 1, h => exact pre _ _ (by rw [← Option.some.inj h]; rfl)
    | 2, h => exact pre _ _ (by rw [← Option.some.inj h]; rfl)
    | 3, h => exact pre _ _ (by rw [← Option.some.inj h]; rfl)
    | q + 4, h => exact absurd h (by simp [a4])
  · match q, h with
    | 0, h => exact pre _ _ (by rw [← Option.some.inj h]; rfl)
    | 1, h => exact pre _ _ (by rw [← Option.some.inj h]; rfl)
    | 2, h => exact pre _ _ (by rw [← Option.some.inj h]; rfl)
    | 3, h => exact pre _ _ (by rw [← Option.some.inj h]; rfl)
    | q + 4, h => exact absurd h (by simp [a4])
  · match q, h with
    | 0, h => exact pre _ _ (by rw [← Option.some.inj h]; rfl)
    | 1, h => exact pre _ _ (by rw [← Option.some.inj h]; rfl)
    | 2, h => exact pre _ _ (by rw [← Option.some.inj h]; rfl)
    | 3, h => exact pre _ _ (by rw [← Option.some.inj h]; rfl)
    | q + 4, h => exact absurd h (by simp [a4])
  · unfold eFrame
    rw [List.getElem?_append_right (by rw [hl]; omega), hl, Nat.add_sub_cancel_left]
    exact h
/-- the numbers of a frame -/
theorem seg_nums {K : List AK} {σ τ : RS} {k S i : Nat} {G : AF} (h : SegF K σ k G S) (e36 : τ.2 36 = σ.2 36) (hi : i < G.2.1.length) : (ofs K G.2.1 i + 4 ≤ S → m_readAt τ (Int32.ofNat k) (Int32.ofNat (ofs K G.2.1 i)) = some (17 + (G.2.1.getD i aE0).2.2.1, τ)) ∧ (ofs K G.2.1 i + 25 ≤ S → m_readAt τ (Int32.ofNat k) (Int32.ofNat (ofs K G.2.1 i + 8)) = some ((G.2.1.getD i aE0).1, τ) ∧ m_readAt τ (Int32.ofNat k) (Int32.ofNat (ofs K G.2.1 i + 12)) = some ((G.2.1.getD i aE0).2.1, τ) ∧ m_readAt τ (Int32.ofNat k) (Int32.ofNat (ofs K G.2.1 i + 16)) = some ((G.2.1.getD i aE0).2.2.1, τ)) := by
  obtain ⟨hk, h24, hS, _⟩ := id h
  have at_ : ∀ q x, ofs K G.2.1 i + q < S → (eFrame K (G.2.1.getD i aE0))[q]? = some (some x) → rB (τ.2 36) (14000 * k + (ofs K G.2.1 i + q)) = x := by
    intro q x hq hx
    rw [e36]
    exact seg_at h hi hq hx
  refine ⟨fun y => ?_, fun y => ⟨?_, ?_, ?_⟩⟩
  · refine M_readAt hk (by omega) (fun q x hx => ?_)
    have := a4_lt hx
    exact at_ q x (by omega) (eFr_at.1 hx)
  · refine M_readAt hk (by omega) (fun q x hx => ?_)
    have := a4_lt hx
    have z := at_ (8 + q) x (by omega) (eFr_at.2.1 hx)
    rw [show ofs K G.2.1 i + 8 + q = ofs K G.2.1 i + (8 + q) by omega]
    exact z
  · refine M_readAt hk (by omega) (fun q x hx => ?_)
    have := a4_lt hx
    have z := at_ (12 + q) x (by omega) (eFr_at.2.2.1 hx)
    rw [show ofs K G.2.1 i + 12 + q = ofs K G.2.1 i + (12 + q) by omega]
    exact z
  · refine M_readAt hk (by omega) (fun q x hx => ?_)
    have := a4_lt hx
    have z := at_ (16 + q) x (by omega) (eFr_at.2.2.2.1 hx)
    rw [show ofs K G.2.1 i + 16 + q = ofs K G.2.1 i + (16 + q) by omega]
    exact z
theorem aWholes_b : ∀ (es : List AE) (n : Int), 0 ≤ n → ((es.take (aWholes es n)).map aEsz).sum ≤ n ∧ (aWholes es n < es.length → n < ((es.take (aWholes es n + 1)).map aEsz).sum) := by
  intro es
  induction es with
  | nil => exact fun n hn => ⟨hn, fun h => absurd h (Nat.not_lt_zero _)⟩
  | cons e r ih =>
    intro n hn
    have en : aWholes (e :: r) n = if aEsz e ≤ n then aWholes r (n - aEsz e) + 1 else 0 := rfl
    by_cases q : aEsz e ≤ n
    · rw [en, if_pos q]
      obtain ⟨h1, h2⟩ := ih (n - aEsz e) (by omega)
      refine ⟨?_, fun h => ?_⟩
      · rw [List.take_succ_cons, List.map_cons, List.sum_cons]
        omega
      · rw [List.length_cons] at h
        have := h2 (by omega)
        rw [List.take_succ_cons, List.map_cons, List.sum_cons]
        omega
    · rw [en, if_neg q]
      refine ⟨hn, fun _ => ?_⟩
      rw [List.take_succ_cons, List.map_cons, List.sum_cons, List.take_zero, List.map_nil, List.sum_nil]
      omega
/-- how many frames are whole -/
theorem seg_whole {K : List AK} {σ : RS} {k S : Nat} {G : AF} (h : SegF K σ k G S) : (aWhole G).length ≤ G.2.1.length ∧ ofs K G.2.1 (aWhole G).length ≤ S ∧ ((aWhole G).length < G.2.1.length → S < ofs K G.2.1 ((aWhole G).length + 1)) ∧ aWhole G = G.2.1.take (aWhole G).length := by
  obtain ⟨hk, h24, hS, h4, h6, h7, h8⟩ := h
  have hn : (G.1 1).toInt - 24 = (S : Int) - 24 := by rw [h4, Int32.toInt_ofNat_of_lt (by omega)]
  have el := @aWhole_len G
  have hle := aWholes_le G.2.1 ((G.1 1).toInt - 24)
  obtain ⟨b1, b2⟩ := aWholes_b G.2.1 ((G.1 1).toInt - 24) (by omega)
  have fl : ∀ j, ((G.2.1.take j).map aEsz).sum = (((G.2.1.take j).flatMap (eFrame K)).length : Int) := fun j => frames_l (K := K) _ (fun e he => h8 e (List.mem_of_mem_take he))
  rw [fl] at b1 b2
  rw [← el] at b1 b2 hle
  refine ⟨hle, ?_, fun y => ?_, ?_⟩
  · unfold ofs
    omega
  · have := b2 y
    unfold ofs
    omega
  · rw [el]
    rfl
