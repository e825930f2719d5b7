/-! pieces: the snapshot, the base, the machine -/
theorem setI_c {σ : RS} {f i g j : Nat} {v w : Int32} (h : f ≠ g) : setI (setI σ f i v) g j w = setI (setI σ g j w) f i v := by
  refine Prod.ext ?_ rfl
  funext x y
  show (if x = g ∧ y = j then w else if x = f ∧ y = i then v else σ.1 x y) = (if x = f ∧ y = i then v else if x = g ∧ y = j then w else σ.1 x y)
  by_cases q : x = g ∧ y = j
  · rw [if_pos q, if_pos q, if_neg (fun z => h (z.1.symm.trans q.1))]
  · rw [if_neg q, if_neg q]
theorem low_low {x : Int32} : aLow8 (aLow8 x) = aLow8 x := i_b8
theorem a4_low {v b : Int32} (h : b ∈ a4 v) : aLow8 b = b := by
  unfold a4 at h
  simp only [List.mem_cons, List.not_mem_nil, or_false] at h
  rcases h with rfl | rfl | rfl | rfl <;> exact low_low
theorem aEnc_low {M : AM} (w : wfM M) : ∀ b ∈ aEnc M, aLow8 b = b := by
  intro b hb
  obtain ⟨_, _, w3, w4⟩ := w
  unfold aEnc at hb
  simp only [List.mem_append, List.mem_flatMap] at hb
  rcases hb with ((hb | ⟨x, hx, hb⟩) | hb) | ⟨e, he, hb⟩
  · exact a4_low hb
  · rcases hb with ((((hb | hb) | hb) | hb) | hb) | hb
    · exact a4_low hb
    · exact a4_low hb
    · exact a4_low hb
    · exact a4_low hb
    · simp only [List.mem_cons, List.not_mem_nil, or_false] at hb
      rcases hb with rfl | rfl <;> exact low_low
    · exact (w3 x hx).2 b hb
  · exact a4_low hb
  · rcases hb with (hb | hb) | hb
    · simp only [List.mem_cons, List.not_mem_nil, or_false] at hb
      rcases hb with rfl | rfl | rfl <;> exact low_low
    · exact (w4 e he).2.2.1 b hb
    · exact (w4 e he).2.2.2 b hb
theorem aEnc_lowD {M : AM} (w : wfM M) {i : Nat} (h : i < (aEnc M).length) : ((aEnc M).getD i 0).toInt8.toInt32 = (aEnc M).getD i 0 := by
  have : (aEnc M).getD i 0 ∈ aEnc M := by
    rw [List.getD_eq_getElem?_getD, List.getElem?_eq_getElem h]
    exact List.getElem_mem h
  exact aEnc_low w _ this
/-- another snapshot -/
theorem RM_shot {σ τ : RS} {a : AA} {u : AU} {s : Nat} {M : AM} (h : RM σ a u) (hr : ¬ aS a 73 s = 3) (w : wfM M) (hF1 : Fr [66] [] σ τ) (p3 : ∀ i, (i < 14000 * s ∨ 14000 * s + (aEnc M).length ≤ i) → τ.1 66 i = σ.1 66 i) (p6 : ∀ i, i < (aEnc M).length → τ.1 66 (14000 * s + i) = (aEnc M).getD i 0) : RM (setI τ 67 s (Int32.ofNat (aEnc M).length)) (aShS (aI a 67 s (Int32.ofNat (aEnc M).length)) s M) u := by
  have hF : Fr [66, 67] [] σ (setI τ 67 s (Int32.ofNat (aEnc M).length)) := Fr_w (Fr_t hF1 Fr_I) (by simp) (by simp)
  have hsc : RSc (setI τ 67 s (Int32.ofNat (aEnc M).length)) (aShS (aI a 67 s (Int32.ofNat (aEnc M).length)) s M) := RSc_I (a := a) (RSc_fr hF1 (by decide) h.1)
  have hel := (aEnc_len w).1
  have e67 : ∀ t, aS (aShS (aI a 67 s (Int32.ofNat (aEnc M).length)) s M) 67 t = if t = s then Int32.ofNat (aEnc M).length else aS a 67 t := by
    intro t
    show (if 67 = 67 ∧ t = s then _ else _) = _
    by_cases q : t = s
    · rw [if_pos ⟨rfl, q⟩, if_pos q]
    · rw [if_neg (fun z => q z.2), if_neg q]
      rfl
  have hsh : ∀ t, t < 7 → RSh (setI τ 67 s (Int32.ofNat (aEnc M).length)) t (aS (aShS (aI a 67 s (Int32.ofNat (aEnc M).length)) s M) 67 t) (aSh (aShS (aI a 67 s (Int32.ofNat (aEnc M).length)) s M) t) := by
    intro t ht
    rw [e67, show aSh (aShS (aI a 67 s (Int32.ofNat (aEnc M).length)) s M) t = if t = s then M else aSh a t from rfl]
    by_cases q : t = s
    · rw [if_pos q, if_pos q]
      refine ⟨w, Or.inr ⟨rfl, hel, fun i hi => ?_⟩⟩
      rw [setI_f (by decide), q]
      exact p6 i hi
    · rw [if_neg q, if_neg q]
      obtain ⟨z1, z2⟩ := h.2.2.2.2.2.2.2.2.2.2.1 t ht
      refine ⟨z1, z2.imp id ?_⟩
      rintro ⟨y1, y2, y3⟩
      refine ⟨y1, y2, fun i hi => ?_⟩
      rw [setI_f (by decide), p3 _ (by omega)]
      exact y3 i hi
  have hld : ∀ t, t < 7 → u.2 (7 + t) → aS a 73 t = 3 → WLd (aShS (aI a 67 s (Int32.ofNat (aEnc M).length)) s M) t := by
    intro t ht hz hr'
    have old := h.2.2.2.2.2.2.2.2.2.2.2.2.2.2.2.2.2.2.2.2.2.2.2 t ht hz hr'
    have ne : t ≠ s := fun z => hr (z ▸ hr')
    intro p hp
    have := old p hp
    rw [e67, if_neg ne]
    exact this
  exact ⟨hsc, RWay_fr hF (by decide) h.2.1, fun s hs => RWt_fr hF (by decide) (h.2.2.1 s hs), fun l hl => RLt_fr hF (by decide) (h.2.2.2.1 l hl), fun s hs => RLog_fr hF (by decide) (h.2.2.2.2.1 s hs), fun s hs => RDk_fr hF (by decide) (h.2.2.2.2.2.1 s hs), fun s hs => RSl_fr hF (by decide) (h.2.2.2.2.2.2.1 s hs), fun s hs hu => RCh_fr hF (by decide) (h.2.2.2.2.2.2.2.1 s hs hu), fun s hs hu => RAt_fr hF (by decide) (h.2.2.2.2.2.2.2.2.1 s hs hu), fun s hs => RMc_fr hF (by decide) (h.2.2.2.2.2.2.2.2.2.1 s hs), hsh, fun s hs => RPc_fr hF (by decide) (h.2.2.2.2.2.2.2.2.2.2.2.1 s hs), fun s hs => RRq_fr hF (by decide) (h.2.2.2.2.2.2.2.2.2.2.2.2.1 s hs), RAk_fr hF (by decide) h.2.2.2.2.2.2.2.2.2.2.2.2.2.1, fun s hs => RWn_fr hF (by decide) (h.2.2.2.2.2.2.2.2.2.2.2.2.2.2.1 s hs), RTp_fr hF (by decide) h.2.2.2.2.2.2.2.2.2.2.2.2.2.2.2.1, RRe_fr hF (by decide) h.2.2.2.2.2.2.2.2.2.2.2.2.2.2.2.2.1, fun s hs => RDn_fr hF (by decide) (h.2.2.2.2.2.2.2.2.2.2.2.2.2.2.2.2.2.1 s hs), RSum_fr hF (by decide) h.2.2.2.2.2.2.2.2.2.2.2.2.2.2.2.2.2.2.1, h.2.2.2.2.2.2.2.2.2.2.2.2.2.2.2.2.2.2.2.1, h.2.2.2.2.2.2.2.2.2.2.2.2.2.2.2.2.2.2.2.2.1, h.2.2.2.2.2.2.2.2.2.2.2.2.2.2.2.2.2.2.2.2.2.1, h.2.2.2.2.2.2.2.2.2.2.2.2.2.2.2.2.2.2.2.2.2.2.1, hld⟩
/-- the log is empty behind another base -/
theorem RM_e55 {σ : RS} {a : AA} {u : AU} {s : Nat} {n : Int32} (h : RM σ a u) (hz : ¬ u.2 s) (hz2 : ¬ u.2 (14 + s)) (hr : ¬ aS a 73 s = 3) (hn : 0 ≤ n.toInt) (hn2 : n.toInt < 1073741824) : RM (setI (setI σ 56 s n) 55 s n) (aI (aI (aLgS a s []) 56 s n) 55 s n) u := by
  have hF : Fr [56, 55] [] σ (setI (setI σ 56 s n) 55 s n) := Fr_w (Fr_t Fr_I Fr_I) (by simp) (by simp)
  have hsc : RSc (setI (setI σ 56 s n) 55 s n) (aI (aI (aLgS a s []) 56 s n) 55 s n) := RSc_I (RSc_I (a := aLgS a s []) h.1)
  have e55 : ∀ t, aS (aI (aI (aLgS a s []) 56 s n) 55 s n) 55 t = if t = s then n else aS a 55 t := by
    intro t
    show (if 55 = 55 ∧ t = s then n else aS a 55 t) = _
    by_cases q : t = s
    · rw [if_pos ⟨rfl, q⟩, if_pos q]
    · rw [if_neg (fun z => q z.2), if_neg q]
  have e56 : ∀ t, aS (aI (aI (aLgS a s []) 56 s n) 55 s n) 56 t = if t = s then n else aS a 56 t := by
    intro t
    show (if 56 = 56 ∧ t = s then n else aS a 56 t) = _
    by_cases q : t = s
    · rw [if_pos ⟨rfl, q⟩, if_pos q]
    · rw [if_neg (fun z => q z.2), if_neg q]
  have elg : ∀ t, aLg (aI (aI (aLgS a s []) 56 s n) 55 s n) t = if t = s then [] else aLg a t := fun t => rfl
  have hlog : ∀ t, t < 7 → RLog (aAk a) (setI (setI σ 56 s n) 55 s n) t (aS (aI (aI (aLgS a s []) 56 s n) 55 s n) 55 t) (aLg (aI (aI (aLgS a s []) 56 s n) 55 s n) t) := by
    intro t ht
    refine RLog_fr hF (by decide) ?_
    rw [e55, elg]
    by_cases q : t = s
    · rw [if_pos q, if_pos q]
      exact fun i hi => absurd hi (Nat.not_lt_zero _)
    · rw [if_neg q, if_neg q]
      exact h.2.2.2.2.1 t ht
  have hat : ∀ t, t < 7 → aS a 52 t = 1 → RAt (setI (setI σ 56 s n) 55 s n) t (aS (aI (aI (aLgS a s []) 56 s n) 55 s n) 55 t) (aLg (aI (aI (aLgS a s []) 56 s n) 55 s n) t) (aFc a t) (aCh a t) := by
    intro t ht hu
    refine RAt_fr hF (by decide) ?_
    rw [e55, elg]
    by_cases q : t = s
    · rw [if_pos q, if_pos q]
      exact fun f _ k i hi => absurd hi (Nat.not_lt_zero _)
    · rw [if_neg q, if_neg q]
      exact h.2.2.2.2.2.2.2.2.1 t ht hu
  have hwl : ∀ t, t < 7 → WLg (aI (aI (aLgS a s []) 56 s n) 55 s n) t := by
    intro t ht
    have old := h.2.2.2.2.2.2.2.2.2.2.2.2.2.2.2.2.2.2.2.2.1 t ht
    unfold WLg aBase aLast at old ⊢
    rw [e55, e56, elg]
    by_cases q : t = s
    · rw [if_pos q, if_pos q, if_pos q]
      exact ⟨hn, by simp, by simp, hn2⟩
    · rw [if_neg q, if_neg q, if_neg q]
      exact old
  have hwc : ∀ t, t < 7 → u.2 t → aS a 52 t = 1 → WCh (aI (aI (aLgS a s []) 56 s n) 55 s n) t := by
    intro t ht hz' hu
    have ne : t ≠ s := fun z => hz (z ▸ hz')
    have old := h.2.2.2.2.2.2.2.2.2.2.2.2.2.2.2.2.2.2.2.2.2.1 t ht hz' hu
    unfold WCh aBase aLast at old ⊢
    rw [e55, e56, if_neg ne, if_neg ne]
    exact old
  have hwm : ∀ t, t < 7 → u.2 (14 + t) → WMk (aI (aI (aLgS a s []) 56 s n) 55 s n) t := by
    intro t ht hz'
    have ne : t ≠ s := fun z => hz2 (z ▸ hz')
    have old := h.2.2.2.2.2.2.2.2.2.2.2.2.2.2.2.2.2.2.2.2.2.2.1 t ht hz'
    unfold WMk aBase aLast at old ⊢
    rw [e55, e56, if_neg ne, if_neg ne]
    exact old
  have hld : ∀ t, t < 7 → u.2 (7 + t) → aS a 73 t = 3 → WLd (aI (aI (aLgS a s []) 56 s n) 55 s n) t := by
    intro t ht hz' hr'
    have ne : t ≠ s := fun z => hr (z ▸ hr')
    have old := h.2.2.2.2.2.2.2.2.2.2.2.2.2.2.2.2.2.2.2.2.2.2.2 t ht hz' hr'
    intro p hp
    have := old p hp
    unfold aLast at this ⊢
    rw [e56, if_neg ne]
    exact this
  exact ⟨hsc, RWay_fr hF (by decide) h.2.1, fun s hs => RWt_fr hF (by decide) (h.2.2.1 s hs), fun l hl => RLt_fr hF (by decide) (h.2.2.2.1 l hl), hlog, fun s hs => RDk_fr hF (by decide) (h.2.2.2.2.2.1 s hs), fun s hs => RSl_fr hF (by decide) (h.2.2.2.2.2.2.1 s hs), fun s hs hu => RCh_fr hF (by decide) (h.2.2.2.2.2.2.2.1 s hs hu), hat, fun s hs => RMc_fr hF (by decide) (h.2.2.2.2.2.2.2.2.2.1 s hs), fun s hs => RSh_fr hF (by decide) (h.2.2.2.2.2.2.2.2.2.2.1 s hs), fun s hs => RPc_fr hF (by decide) (h.2.2.2.2.2.2.2.2.2.2.2.1 s hs), fun s hs => RRq_fr hF (by decide) (h.2.2.2.2.2.2.2.2.2.2.2.2.1 s hs), RAk_fr hF (by decide) h.2.2.2.2.2.2.2.2.2.2.2.2.2.1, fun s hs => RWn_fr hF (by decide) (h.2.2.2.2.2.2.2.2.2.2.2.2.2.2.1 s hs), RTp_fr hF (by decide) h.2.2.2.2.2.2.2.2.2.2.2.2.2.2.2.1, RRe_fr hF (by decide) h.2.2.2.2.2.2.2.2.2.2.2.2.2.2.2.2.1, fun s hs => RDn_fr hF (by decide) (h.2.2.2.2.2.2.2.2.2.2.2.2.2.2.2.2.2.1 s hs), RSum_fr hF (by decide) h.2.2.2.2.2.2.2.2.2.2.2.2.2.2.2.2.2.2.1, h.2.2.2.2.2.2.2.2.2.2.2.2.2.2.2.2.2.2.2.1, hwl, hwc, hwm, hld⟩
theorem SLu_Fr {s : Nat} {σ σ' : RS} (h : SLu s σ σ') : Fr [106, 107, 108, 109, 110, 111, 112, 113, 114, 115, 116, 117, 118, 119, 146] [] σ σ' := by
  refine ⟨fun f hf => ?_, fun f _ => by rw [h.2]⟩
  funext i
  refine h.1 f i (fun z => hf ?_) (fun z => hf ?_)
  · unfold mOf at z
    simp
    omega
  · simp
    omega
/-- the machine as a snapshot says -/
theorem RM_mcU {σ τ : RS} {a : AA} {u : AU} {s : Nat} {M : AM} (h : RM σ a u) (hS : SLu s σ τ) (hM : RMc τ s M) : RM τ (aMcS a s M) u := by
  have hF := SLu_Fr hS
  have hmc : ∀ t, t < 7 → RMc τ t (aMc (aMcS a s M) t) := by
    intro t ht
    show RMc τ t (if t = s then M else aMc a t)
    by_cases q : t = s
    · rw [if_pos q, q]
      exact hM
    · rw [if_neg q]
      exact RMc_o (fun f i f1 f2 hn => hS.1 f i hn (by omega)) q (h.2.2.2.2.2.2.2.2.2.1 t ht)
  exact ⟨RSc_fr hF (by decide) h.1, RWay_fr hF (by decide) h.2.1, fun s hs => RWt_fr hF (by decide) (h.2.2.1 s hs), fun l hl => RLt_fr hF (by decide) (h.2.2.2.1 l hl), fun s hs => RLog_fr hF (by decide) (h.2.2.2.2.1 s hs), fun s hs => RDk_fr hF (by decide) (h.2.2.2.2.2.1 s hs), fun s hs => RSl_fr hF (by decide) (h.2.2.2.2.2.2.1 s hs), fun s hs hu => RCh_fr hF (by decide) (h.2.2.2.2.2.2.2.1 s hs hu), fun s hs hu => RAt_fr hF (by decide) (h.2.2.2.2.2.2.2.2.1 s hs hu), hmc, fun s hs => RSh_fr hF (by decide) (h.2.2.2.2.2.2.2.2.2.2.1 s hs), fun s hs => RPc_fr hF (by decide) (h.2.2.2.2.2.2.2.2.2.2.2.1 s hs), fun s hs => RRq_fr hF (by decide) (h.2.2.2.2.2.2.2.2.2.2.2.2.1 s hs), RAk_fr hF (by decide) h.2.2.2.2.2.2.2.2.2.2.2.2.2.1, fun s hs => RWn_fr hF (by decide) (h.2.2.2.2.2.2.2.2.2.2.2.2.2.2.1 s hs), RTp_fr hF (by decide) h.2.2.2.2.2.2.2.2.2.2.2.2.2.2.2.1, RRe_fr hF (by decide) h.2.2.2.2.2.2.2.2.2.2.2.2.2.2.2.2.1, fun s hs => RDn_fr hF (by decide) (h.2.2.2.2.2.2.2.2.2.2.2.2.2.2.2.2.2.1 s hs), RSum_fr hF (by decide) h.2.2.2.2.2.2.2.2.2.2.2.2.2.2.2.2.2.2.1, h.2.2.2.2.2.2.2.2.2.2.2.2.2.2.2.2.2.2.2.1, h.2.2.2.2.2.2.2.2.2.2.2.2.2.2.2.2.2.2.2.2.1, h.2.2.2.2.2.2.2.2.2.2.2.2.2.2.2.2.2.2.2.2.2.1, h.2.2.2.2.2.2.2.2.2.2.2.2.2.2.2.2.2.2.2.2.2.2.1, h.2.2.2.2.2.2.2.2.2.2.2.2.2.2.2.2.2.2.2.2.2.2.2⟩
/-- an assembly -/
theorem RM_pcs {σ τ : RS} {a : AA} {u : AU} {s : Nat} {b g : Int32} {M : AM} (h : RM σ a u) (hF1 : Fr [68] [] σ τ) (ho : ∀ i, (i < 14000 * s ∨ 14000 * s + 14000 ≤ i) → τ.1 68 i = σ.1 68 i) (hp : RPc τ s b g M) : RM (setI (setI τ 69 s b) 70 s g) (aPmS (aI (aI a 69 s b) 70 s g) s M) u := by
  have hF : Fr [68, 69, 70] [] σ (setI (setI τ 69 s b) 70 s g) := Fr_w (Fr_t (Fr_t hF1 Fr_I) Fr_I) (by simp) (by simp)
  have hsc : RSc (setI (setI τ 69 s b) 70 s g) (aPmS (aI (aI a 69 s b) 70 s g) s M) := RSc_I (a := aI a 69 s b) (RSc_I (a := a) (RSc_fr hF1 (by decide) h.1))
  have e69 : ∀ t, aS (aPmS (aI (aI a 69 s b) 70 s g) s M) 69 t = if t = s then b else aS a 69 t := by
    intro t
    show (if 69 = 69 ∧ t = s then b else aS a 69 t) = _
    by_cases q : t = s
    · rw [if_pos ⟨rfl, q⟩, if_pos q]
    · rw [if_neg (fun z => q z.2), if_neg q]
  have e70 : ∀ t, aS (aPmS (aI (aI a 69 s b) 70 s g) s M) 70 t = if t = s then g else aS a 70 t := by
    intro t
    show (if 70 = 70 ∧ t = s then g else aS a 70 t) = _
    by_cases q : t = s
    · rw [if_pos ⟨rfl, q⟩, if_pos q]
    · rw [if_neg (fun z => q z.2), if_neg q]
  have hpc : ∀ t, t < 7 → RPc (setI (setI τ 69 s b) 70 s g) t (aS (aPmS (aI (aI a 69 s b) 70 s g) s M) 69 t) (aS (aPmS (aI (aI a 69 s b) 70 s g) s M) 70 t) (aPm (aPmS (aI (aI a 69 s b) 70 s g) s M) t) := by
    intro t ht
    rw [e69, e70, show aPm (aPmS (aI (aI a 69 s b) 70 s g) s M) t = if t = s then M else aPm a t from rfl]
    by_cases q : t = s
    · rw [if_pos q, if_pos q, if_pos q, q]
      refine hp.imp id ?_
      rintro ⟨G, g1, g2, g3, g4⟩
      exact ⟨G, g1, g2, g3, fun i hi => by rw [setI_f (by decide), setI_f (by decide)]; exact g4 i hi⟩
    · rw [if_neg q, if_neg q, if_neg q]
      refine (h.2.2.2.2.2.2.2.2.2.2.2.1 t ht).imp id ?_
      rintro ⟨G, g1, g2, g3, g4⟩
      exact ⟨G, g1, g2, g3, fun i hi => by rw [setI_f (by decide), setI_f (by decide), ho _ (by omega)]; exact g4 i hi⟩
  exact ⟨hsc, RWay_fr hF (by decide) h.2.1, fun s hs => RWt_fr hF (by decide) (h.2.2.1 s hs), fun l hl => RLt_fr hF (by decide) (h.2.2.2.1 l hl), fun s hs => RLog_fr hF (by decide) (h.2.2.2.2.1 s hs), fun s hs => RDk_fr hF (by decide) (h.2.2.2.2.2.1 s hs), fun s hs => RSl_fr hF (by decide) (h.2.2.2.2.2.2.1 s hs), fun s hs hu => RCh_fr hF (by decide) (h.2.2.2.2.2.2.2.1 s hs hu), fun s hs hu => RAt_fr hF (by decide) (h.2.2.2.2.2.2.2.2.1 s hs hu), fun s hs => RMc_fr hF (by decide) (h.2.2.2.2.2.2.2.2.2.1 s hs), fun s hs => RSh_fr hF (by decide) (h.2.2.2.2.2.2.2.2.2.2.1 s hs), hpc, fun s hs => RRq_fr hF (by decide) (h.2.2.2.2.2.2.2.2.2.2.2.2.1 s hs), RAk_fr hF (by decide) h.2.2.2.2.2.2.2.2.2.2.2.2.2.1, fun s hs => RWn_fr hF (by decide) (h.2.2.2.2.2.2.2.2.2.2.2.2.2.2.1 s hs), RTp_fr hF (by decide) h.2.2.2.2.2.2.2.2.2.2.2.2.2.2.2.1, RRe_fr hF (by decide) h.2.2.2.2.2.2.2.2.2.2.2.2.2.2.2.2.1, fun s hs => RDn_fr hF (by decide) (h.2.2.2.2.2.2.2.2.2.2.2.2.2.2.2.2.2.1 s hs), RSum_fr hF (by decide) h.2.2.2.2.2.2.2.2.2.2.2.2.2.2.2.2.2.2.1, h.2.2.2.2.2.2.2.2.2.2.2.2.2.2.2.2.2.2.2.1, h.2.2.2.2.2.2.2.2.2.2.2.2.2.2.2.2.2.2.2.2.1, h.2.2.2.2.2.2.2.2.2.2.2.2.2.2.2.2.2.2.2.2.2.1, h.2.2.2.2.2.2.2.2.2.2.2.2.2.2.2.2.2.2.2.2.2.2.1, h.2.2.2.2.2.2.2.2.2.2.2.2.2.2.2.2.2.2.2.2.2.2.2⟩
theorem aPmS_same {a : AA} {s : Nat} : aPmS a s (aPm a s) = a := by
  have : aU (aPm a) s (aPm a s) = aPm a := by
    funext j
    show (if j = s then aPm a s else aPm a j) = aPm a j
    by_cases q : j = s
    · rw [if_pos q, q]
    · rw [if_neg q]
  unfold aPmS
  rw [this]
  rfl
theorem RM_69 {σ : RS} {a : AA} {u : AU} {s : Nat} (h : RM σ a u) (hs : s < 7) : RM (setI σ 69 s (-1)) (aI a 69 s (-1)) u := by
  have := RM_pcs (s := s) (b := -1) (g := aS a 70 s) (M := aPm a s) h ⟨fun _ _ => rfl, fun _ _ => rfl⟩ (fun _ _ => rfl) (Or.inl rfl)
  rw [setI_same (σ := setI σ 69 s (-1)) (by rw [setI_f (by decide)]; exact RM_7 h (by decide) hs), aI_same (a := aI a 69 s (-1)) (show aS (aI a 69 s (-1)) 70 s = aS a 70 s from aS_If (by decide))] at this
  rw [show aPm a s = aPm (aI a 69 s (-1)) s from rfl, aPmS_same] at this
  exact this
