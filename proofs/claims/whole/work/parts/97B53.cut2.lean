/-- the log ends earlier -/
theorem RM_c56 {σ : RS} {a : AA} {u : AU} {s k : Nat} {v : Int32} (h : RM σ a u) (hs : s < 7) (hk : k ≤ (aLg a s).length) (hv : v.toInt = (aBase a s).toInt + k) (z1 : ¬ u.2 s) (z2 : ¬ u.2 (14 + s)) (z3 : ¬ aS a 73 s = 3) : RM (setI σ 56 s v) (aLgS (aI a 56 s v) s ((aLg a s).take k)) u := by
  have hF : Fr [56] [] σ (setI σ 56 s v) := Fr_I
  have wl := RM_wl h hs
  have e56 : ∀ t, aS (aLgS (aI a 56 s v) s ((aLg a s).take k)) 56 t = if t = s then v else aS a 56 t := by
    intro t
    show (if 56 = 56 ∧ t = s then v else aS a 56 t) = _
    by_cases q : t = s
    · rw [if_pos ⟨rfl, q⟩, if_pos q]
    · rw [if_neg (fun z => q z.2), if_neg q]
  have elg : ∀ t, aLg (aLgS (aI a 56 s v) s ((aLg a s).take k)) t = if t = s then (aLg a s).take k else aLg a t := fun _ => rfl
  have hsc : RSc (setI σ 56 s v) (aLgS (aI a 56 s v) s ((aLg a s).take k)) := RSc_I h.1
  have hlog : ∀ t, t < 7 → RLog (aAk a) (setI σ 56 s v) t (aS a 55 t) (aLg (aLgS (aI a 56 s v) s ((aLg a s).take k)) t) := by
    intro t ht
    rw [elg]
    have old := RLog_fr hF (by decide) (h.2.2.2.2.1 t ht)
    by_cases q : t = s
    · rw [if_pos q]
      rw [q] at old ⊢
      intro i hi
      rw [List.length_take] at hi
      have := old i (by omega)
      have eg : ((aLg a s).take k).getD i aE0 = (aLg a s).getD i aE0 := by
        rw [List.getD_eq_getElem?_getD, List.getD_eq_getElem?_getD, List.getElem?_take_of_lt (by omega)]
      rw [eg]
      exact this
    · rw [if_neg q]
      exact old
  have hat : ∀ t, t < 7 → aS a 52 t = 1 → RAt (setI σ 56 s v) t (aS a 55 t) (aLg (aLgS (aI a 56 s v) s ((aLg a s).take k)) t) (aFc a t) (aCh a t) := by
    intro t ht hu
    refine RAt_fr hF (by decide) ?_
    rw [elg]
    by_cases q : t = s
    · rw [if_pos q]
      rw [q] at hu ⊢
      intro f hf x i hi hx e
      rw [List.length_take] at hi
      exact h.2.2.2.2.2.2.2.2.1 s hs hu f hf x i (by omega) hx e
    · rw [if_neg q]
      exact h.2.2.2.2.2.2.2.2.1 t ht hu
  have hwl : ∀ t, t < 7 → WLg (aLgS (aI a 56 s v) s ((aLg a s).take k)) t := by
    intro t ht
    have old := h.2.2.2.2.2.2.2.2.2.2.2.2.2.2.2.2.2.2.2.2.1 t ht
    unfold WLg aLast at old ⊢
    rw [e56, elg]
    by_cases q : t = s
    · rw [if_pos q, if_pos q, List.length_take]
      rw [q] at old ⊢
      obtain ⟨w1, w2, w3, w4⟩ := old
      refine ⟨w1, ?_, by omega, by omega⟩
      rw [Nat.min_eq_left hk]
      exact hv
    · rw [if_neg q, if_neg q]
      exact old
  have hwc : ∀ t, t < 7 → u.2 t → aS a 52 t = 1 → WCh (aLgS (aI a 56 s v) s ((aLg a s).take k)) t := by
    intro t ht hz hu
    have q : t ≠ s := fun q => z1 (q ▸ hz)
    obtain ⟨c1, c2, c3⟩ := h.2.2.2.2.2.2.2.2.2.2.2.2.2.2.2.2.2.2.2.2.2.1 t ht hz hu
    refine ⟨c1, c2, ?_⟩
    unfold aLast at c3 ⊢
    rw [e56, if_neg q]
    exact c3
  have hwm : ∀ t, t < 7 → u.2 (14 + t) → WMk (aLgS (aI a 56 s v) s ((aLg a s).take k)) t := by
    intro t ht hz
    have q : t ≠ s := fun q => z2 (q ▸ hz)
    have old := h.2.2.2.2.2.2.2.2.2.2.2.2.2.2.2.2.2.2.2.2.2.2.1 t ht hz
    unfold WMk aLast at old ⊢
    rw [e56, if_neg q]
    exact old
  have hld : ∀ t, t < 7 → u.2 (7 + t) → aS a 73 t = 3 → WLd (aLgS (aI a 56 s v) s ((aLg a s).take k)) t := by
    intro t ht hz hr
    have q : t ≠ s := fun q => z3 (q ▸ hr)
    have old := h.2.2.2.2.2.2.2.2.2.2.2.2.2.2.2.2.2.2.2.2.2.2.2 t ht hz hr
    intro p hp
    have := old p hp
    unfold aLast at this ⊢
    rw [e56, if_neg q]
    exact this
  exact ⟨hsc, RWay_fr hF (by decide) h.2.1, fun s hs => RWt_fr hF (by decide) (h.2.2.1 s hs), fun l hl => RLt_fr hF (by decide) (h.2.2.2.1 l hl), hlog, fun s hs => RDk_fr hF (by decide) (h.2.2.2.2.2.1 s hs), fun s hs => RSl_fr hF (by decide) (h.2.2.2.2.2.2.1 s hs), fun s hs hu => RCh_fr hF (by decide) (h.2.2.2.2.2.2.2.1 s hs hu), hat, fun s hs => RMc_fr hF (by decide) (h.2.2.2.2.2.2.2.2.2.1 s hs), fun s hs => RSh_fr hF (by decide) (h.2.2.2.2.2.2.2.2.2.2.1 s hs), fun s hs => RPc_fr hF (by decide) (h.2.2.2.2.2.2.2.2.2.2.2.1 s hs), fun s hs => RRq_fr hF (by decide) (h.2.2.2.2.2.2.2.2.2.2.2.2.1 s hs), RAk_fr hF (by decide) h.2.2.2.2.2.2.2.2.2.2.2.2.2.1, fun s hs => RWn_fr hF (by decide) (h.2.2.2.2.2.2.2.2.2.2.2.2.2.2.1 s hs), RTp_fr hF (by decide) h.2.2.2.2.2.2.2.2.2.2.2.2.2.2.2.1, RRe_fr hF (by decide) h.2.2.2.2.2.2.2.2.2.2.2.2.2.2.2.2.1, fun s hs => RDn_fr hF (by decide) (h.2.2.2.2.2.2.2.2.2.2.2.2.2.2.2.2.2.1 s hs), RSum_fr hF (by decide) h.2.2.2.2.2.2.2.2.2.2.2.2.2.2.2.2.2.2.1, h.2.2.2.2.2.2.2.2.2.2.2.2.2.2.2.2.2.2.2.1, hwl, hwc, hwm, hld⟩
